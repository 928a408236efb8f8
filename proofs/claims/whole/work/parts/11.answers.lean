theorem gX0_isFull_0 {d : Nat} {Q : Value → zm_S → Prop} {w : zm_S} (kt : (w.1 2 8) < (160 : Int32) → zm_T zc_H d mX0_isFull Q 14 [] [] w) (kf : ¬ (w.1 2 8) < (160 : Int32) → zm_T zc_H d mX0_isFull Q 10 [] [] w) : zm_T zc_H d mX0_isFull Q 0 [(0, .ref 2)] [] w := by
  refine zm_aload_n (x := 2) 0 dX0_isFull_0 rfl rfl ?_
  refine zm_getf (v := .int (w.1 2 8)) (j := 8) dX0_isFull_1 clX0 flX0_48 (Nat.le_of_ble_eq_true rfl) zc_H2 rfl rfl ?_
  refine zm_sipush dX0_isFull_4 (v := (160 : Int32)) (by decide) ?_
  refine zm_icmp_lt 14 dX0_isFull_7 (by decide) (fun h => ?_) (fun h => ?_)
  · refine zm_sub [] rfl ?_
    exact kt h
  · refine zm_sub [] rfl ?_
    exact kf h
theorem gX0_isFull_10 {d : Nat} {Q : Value → zm_S → Prop} {w : zm_S} (k : Q (.int (1 : Int32)) w) : zm_T zc_H d mX0_isFull Q 10 [] [] w := by
  refine zm_iconst dX0_isFull_10 (v := (1 : Int32)) (by decide) ?_
  refine zm_goto 15 dX0_isFull_11 (by decide) ?_
  exact zm_zreturn dX0_isFull_15 rfl (by decide) k
theorem gX0_isFull_14 {d : Nat} {Q : Value → zm_S → Prop} {w : zm_S} (k : Q (.int (0 : Int32)) w) : zm_T zc_H d mX0_isFull Q 14 [] [] w := by
  refine zm_iconst dX0_isFull_14 (v := (0 : Int32)) (by decide) ?_
  exact zm_zreturn dX0_isFull_15 rfl (by decide) k
theorem gX0_timeFits_0 {d : Nat} {Q : Value → zm_S → Prop} {w : zm_S} {a1 : Int32} (kt : a1 < 0 → zm_T zc_H d mX0_timeFits Q 37 [] [] w) (kf : ¬ a1 < 0 → zm_T zc_H d mX0_timeFits Q 4 [(0, .ref 2), (1, .int a1)] [] w) : zm_T zc_H d mX0_timeFits Q 0 [(0, .ref 2), (1, .int a1)] [] w := by
  refine zm_iload_n (x := a1) 1 dX0_timeFits_0 rfl rfl ?_
  refine zm_if_lt 37 dX0_timeFits_1 (by decide) (fun h => ?_) (fun h => ?_)
  · refine zm_sub [] rfl ?_
    exact kt h
  · exact kf h
theorem gX0_timeFits_4 {d : Nat} {Q : Value → zm_S → Prop} {w : zm_S} {a1 : Int32} (kt : (999 : Int32) < a1 → zm_T zc_H d mX0_timeFits Q 37 [] [] w) (kf : ¬ (999 : Int32) < a1 → zm_T zc_H d mX0_timeFits Q 11 [(0, .ref 2), (1, .int a1)] [] w) : zm_T zc_H d mX0_timeFits Q 4 [(0, .ref 2), (1, .int a1)] [] w := by
  refine zm_iload_n (x := a1) 1 dX0_timeFits_4 rfl rfl ?_
  refine zm_sipush dX0_timeFits_5 (v := (999 : Int32)) (by decide) ?_
  refine zm_icmp_gt 37 dX0_timeFits_8 (by decide) (fun h => ?_) (fun h => ?_)
  · refine zm_sub [] rfl ?_
    exact kt h
  · exact kf h
theorem gX0_timeFits_11 {d : Nat} {Q : Value → zm_S → Prop} {w : zm_S} {a1 : Int32} (kt : (w.1 2 8) = 0 → zm_T zc_H d mX0_timeFits Q 33 [] [] w) (kf : ¬ (w.1 2 8) = 0 → zm_T zc_H d mX0_timeFits Q 18 [(0, .ref 2), (1, .int a1)] [] w) : zm_T zc_H d mX0_timeFits Q 11 [(0, .ref 2), (1, .int a1)] [] w := by
  refine zm_aload_n (x := 2) 0 dX0_timeFits_11 rfl rfl ?_
  refine zm_getf (v := .int (w.1 2 8)) (j := 8) dX0_timeFits_12 clX0 flX0_48 (Nat.le_of_ble_eq_true rfl) zc_H2 rfl rfl ?_
  refine zm_if_eq 33 dX0_timeFits_15 (by decide) (fun h => ?_) (fun h => ?_)
  · refine zm_sub [] rfl ?_
    exact kt h
  · exact kf h
theorem gX0_timeFits_18 {d : Nat} {Q : Value → zm_S → Prop} {w : zm_S} {a1 : Int32} (hi29 : vp_in ((w.1 2 8) - (1 : Int32)) 160) (kt : a1 < (w.1 6 (((w.1 2 8) - (1 : Int32))).toNatClampNeg) → zm_T zc_H d mX0_timeFits Q 37 [] [] w) (kf : ¬ a1 < (w.1 6 (((w.1 2 8) - (1 : Int32))).toNatClampNeg) → zm_T zc_H d mX0_timeFits Q 33 [] [] w) : zm_T zc_H d mX0_timeFits Q 18 [(0, .ref 2), (1, .int a1)] [] w := by
  refine zm_iload_n (x := a1) 1 dX0_timeFits_18 rfl rfl ?_
  refine zm_aload_n (x := 2) 0 dX0_timeFits_19 rfl rfl ?_
  refine zm_getf (v := .ref 6) (j := 3) dX0_timeFits_20 clX0 flX0_21 (Nat.le_of_ble_eq_true rfl) zc_H2 rfl rfl ?_
  refine zm_aload_n (x := 2) 0 dX0_timeFits_23 rfl rfl ?_
  refine zm_getf (v := .int (w.1 2 8)) (j := 8) dX0_timeFits_24 clX0 flX0_48 (Nat.le_of_ble_eq_true rfl) zc_H2 rfl rfl ?_
  refine zm_iconst dX0_timeFits_27 (v := (1 : Int32)) (by decide) ?_
  refine zm_isub dX0_timeFits_28 ?_
  refine zm_sald dX0_timeFits_29 zc_H6 hi29 ?_
  refine zm_icmp_lt 37 dX0_timeFits_30 (by decide) (fun h => ?_) (fun h => ?_)
  · refine zm_sub [] rfl ?_
    exact kt h
  · refine zm_sub [] rfl ?_
    exact kf h
theorem gX0_timeFits_33 {d : Nat} {Q : Value → zm_S → Prop} {w : zm_S} (k : Q (.int (1 : Int32)) w) : zm_T zc_H d mX0_timeFits Q 33 [] [] w := by
  refine zm_iconst dX0_timeFits_33 (v := (1 : Int32)) (by decide) ?_
  refine zm_goto 38 dX0_timeFits_34 (by decide) ?_
  exact zm_zreturn dX0_timeFits_38 rfl (by decide) k
theorem gX0_timeFits_37 {d : Nat} {Q : Value → zm_S → Prop} {w : zm_S} (k : Q (.int (0 : Int32)) w) : zm_T zc_H d mX0_timeFits Q 37 [] [] w := by
  refine zm_iconst dX0_timeFits_37 (v := (0 : Int32)) (by decide) ?_
  exact zm_zreturn dX0_timeFits_38 rfl (by decide) k
theorem gX0_tell_0 {d : Nat} {Q : Value → zm_S → Prop} {w : zm_S} {a1 : Int32} {a2 : Int32} {a3 : Int32} {a4 : Int32} {Q' : Value → zm_S → Prop} (hC : zm_C zc_H d mX0_isFull [.ref 2] w Q') (k : ∀ (r : Int32) (u : zm_S), Q' (.int r) u → zm_T zc_H (d + 1) mX0_tell Q 4 [(0, .ref 2), (1, .int a1), (2, .int a2), (3, .int a3), (4, .int a4)] [.int r] u) : zm_T zc_H (d + 1) mX0_tell Q 0 [(0, .ref 2), (1, .int a1), (2, .int a2), (3, .int a3), (4, .int a4)] [] w := by
  refine zm_aload_n (x := 2) 0 dX0_tell_0 rfl rfl ?_
  refine zm_callVz (as := []) (rest := []) dX0_tell_1 rfl mtX0_isFull lkX0_51 zc_H2 (C := RX0) rfl rfl rfl (Nat.le_of_ble_eq_true rfl) hC rfl (fun r u hq => ?_)
  exact k r u hq
theorem gX0_tell_4 {d : Nat} {Q : Value → zm_S → Prop} {w : zm_S} {a1 : Int32} {a2 : Int32} {a3 : Int32} {a4 : Int32} {s0 : Int32} (kt : s0 = 0 → zm_T zc_H d mX0_tell Q 8 [(0, .ref 2), (1, .int a1), (2, .int a2), (3, .int a3), (4, .int a4)] [] w) (kf : ¬ s0 = 0 → zm_T zc_H d mX0_tell Q 7 [] [] w) : zm_T zc_H d mX0_tell Q 4 [(0, .ref 2), (1, .int a1), (2, .int a2), (3, .int a3), (4, .int a4)] [.int s0] w := by
  refine zm_if_eq 8 dX0_tell_4 (by decide) (fun h => ?_) (fun h => ?_)
  · exact kt h
  · refine zm_sub [] rfl ?_
    exact kf h
theorem gX0_tell_7 {d : Nat} {Q : Value → zm_S → Prop} {w : zm_S} (k : Q .null w) : zm_T zc_H d mX0_tell Q 7 [] [] w := by
  exact zm_return dX0_tell_7 rfl k
theorem gX0_tell_8 {d : Nat} {Q : Value → zm_S → Prop} {w : zm_S} {a1 : Int32} {a2 : Int32} {a3 : Int32} {a4 : Int32} (hi18 : vp_in (w.1 2 8) 160) (hi29 : vp_in (w.1 2 8) 160) (hi40 : vp_in (w.1 2 8) 160) (hi52 : vp_in (w.1 2 8) 160) (kt : (w.1 2 11) < a4 → zm_T zc_H d mX0_tell Q 79 [] [] (zm_pi (zm_pi (zm_pi (zm_pi (zm_pi w 3 ((w.1 2 8)).toNatClampNeg (vp_nar .byte ((a1).toInt8.toInt32))) 4 ((w.1 2 8)).toNatClampNeg (vp_nar .byte ((a2).toInt8.toInt32))) 5 ((w.1 2 8)).toNatClampNeg (vp_nar .byte ((a3).toInt8.toInt32))) 6 ((w.1 2 8)).toNatClampNeg (vp_nar .short ((a4).toInt16.toInt32))) 2 8 ((w.1 2 8) + (1 : Int32)))) (kf : ¬ (w.1 2 11) < a4 → zm_T zc_H d mX0_tell Q 72 [(0, .ref 2), (1, .int a1), (2, .int a2), (3, .int a3)] [] (zm_pi (zm_pi (zm_pi (zm_pi (zm_pi w 3 ((w.1 2 8)).toNatClampNeg (vp_nar .byte ((a1).toInt8.toInt32))) 4 ((w.1 2 8)).toNatClampNeg (vp_nar .byte ((a2).toInt8.toInt32))) 5 ((w.1 2 8)).toNatClampNeg (vp_nar .byte ((a3).toInt8.toInt32))) 6 ((w.1 2 8)).toNatClampNeg (vp_nar .short ((a4).toInt16.toInt32))) 2 8 ((w.1 2 8) + (1 : Int32)))) : zm_T zc_H d mX0_tell Q 8 [(0, .ref 2), (1, .int a1), (2, .int a2), (3, .int a3), (4, .int a4)] [] w := by
  refine zm_aload_n (x := 2) 0 dX0_tell_8 rfl rfl ?_
  refine zm_getf (v := .ref 3) (j := 0) dX0_tell_9 clX0 flX0_9 (Nat.le_of_ble_eq_true rfl) zc_H2 rfl rfl ?_
  refine zm_aload_n (x := 2) 0 dX0_tell_12 rfl rfl ?_
  refine zm_getf (v := .int (w.1 2 8)) (j := 8) dX0_tell_13 clX0 flX0_48 (Nat.le_of_ble_eq_true rfl) zc_H2 rfl rfl ?_
  refine zm_iload_n (x := a1) 1 dX0_tell_16 rfl rfl ?_
  refine zm_i2b dX0_tell_17 ?_
  refine zm_bast dX0_tell_18 zc_H3 hi18 ?_
  refine zm_aload_n (x := 2) 0 dX0_tell_19 rfl rfl ?_
  refine zm_getf (v := .ref 4) (j := 1) dX0_tell_20 clX0 flX0_15 (Nat.le_of_ble_eq_true rfl) zc_H2 rfl rfl ?_
  refine zm_aload_n (x := 2) 0 dX0_tell_23 rfl rfl ?_
  refine zm_getf (v := .int (w.1 2 8)) (j := 8) dX0_tell_24 clX0 flX0_48 (Nat.le_of_ble_eq_true rfl) zc_H2 rfl rfl ?_
  refine zm_iload_n (x := a2) 2 dX0_tell_27 rfl rfl ?_
  refine zm_i2b dX0_tell_28 ?_
  refine zm_bast dX0_tell_29 zc_H4 hi29 ?_
  refine zm_aload_n (x := 2) 0 dX0_tell_30 rfl rfl ?_
  refine zm_getf (v := .ref 5) (j := 2) dX0_tell_31 clX0 flX0_18 (Nat.le_of_ble_eq_true rfl) zc_H2 rfl rfl ?_
  refine zm_aload_n (x := 2) 0 dX0_tell_34 rfl rfl ?_
  refine zm_getf (v := .int (w.1 2 8)) (j := 8) dX0_tell_35 clX0 flX0_48 (Nat.le_of_ble_eq_true rfl) zc_H2 rfl rfl ?_
  refine zm_iload_n (x := a3) 3 dX0_tell_38 rfl rfl ?_
  refine zm_i2b dX0_tell_39 ?_
  refine zm_bast dX0_tell_40 zc_H5 hi40 ?_
  refine zm_aload_n (x := 2) 0 dX0_tell_41 rfl rfl ?_
  refine zm_getf (v := .ref 6) (j := 3) dX0_tell_42 clX0 flX0_21 (Nat.le_of_ble_eq_true rfl) zc_H2 rfl rfl ?_
  refine zm_aload_n (x := 2) 0 dX0_tell_45 rfl rfl ?_
  refine zm_getf (v := .int (w.1 2 8)) (j := 8) dX0_tell_46 clX0 flX0_48 (Nat.le_of_ble_eq_true rfl) zc_H2 rfl rfl ?_
  refine zm_iload (x := a4) 4 dX0_tell_49 rfl ?_
  refine zm_i2s dX0_tell_51 ?_
  refine zm_sast dX0_tell_52 zc_H6 hi52 ?_
  refine zm_aload_n (x := 2) 0 dX0_tell_53 rfl rfl ?_
  refine zm_dup dX0_tell_54 rfl ?_
  refine zm_getf (v := .int (w.1 2 8)) (j := 8) dX0_tell_55 clX0 flX0_48 (Nat.le_of_ble_eq_true rfl) zc_H2 rfl rfl ?_
  refine zm_iconst dX0_tell_58 (v := (1 : Int32)) (by decide) ?_
  refine zm_iadd dX0_tell_59 ?_
  refine zm_putf (j := 8) (ty := .int) dX0_tell_60 clX0 flX0_48 (Nat.le_of_ble_eq_true rfl) zc_H2 rfl rfl (by decide +kernel) rfl rfl ?_
  refine zm_iload (x := a4) 4 dX0_tell_63 rfl ?_
  refine zm_aload_n (x := 2) 0 dX0_tell_65 rfl rfl ?_
  refine zm_getf (v := .int (w.1 2 11)) (j := 11) dX0_tell_66 clX0 flX0_45 (Nat.le_of_ble_eq_true rfl) zc_H2 rfl rfl ?_
  refine zm_icmp_gt 79 dX0_tell_69 (by decide) (fun h => ?_) (fun h => ?_)
  · refine zm_sub [] rfl ?_
    exact kt h
  · refine zm_sub [0, 1, 2, 3] rfl ?_
    exact kf h
theorem gX0_tell_72 {d : Nat} {Q : Value → zm_S → Prop} {w : zm_S} {a1 : Int32} {a2 : Int32} {a3 : Int32} {Q' : Value → zm_S → Prop} (hC : zm_C zc_H d mX0_hear [.ref 2, .int a1, .int a2, .int a3] w Q') (k : ∀ (u : zm_S), Q' .null u → zm_T zc_H (d + 1) mX0_tell Q 79 [] [] u) : zm_T zc_H (d + 1) mX0_tell Q 72 [(0, .ref 2), (1, .int a1), (2, .int a2), (3, .int a3)] [] w := by
  refine zm_aload_n (x := 2) 0 dX0_tell_72 rfl rfl ?_
  refine zm_iload_n (x := a1) 1 dX0_tell_73 rfl rfl ?_
  refine zm_iload_n (x := a2) 2 dX0_tell_74 rfl rfl ?_
  refine zm_iload_n (x := a3) 3 dX0_tell_75 rfl rfl ?_
  refine zm_callVv (as := [.int a1, .int a2, .int a3]) (rest := []) dX0_tell_76 rfl mtX0_hear lkX0_55 zc_H2 (C := RX0) rfl rfl rfl (Nat.le_of_ble_eq_true rfl) hC rfl (fun u hq => ?_)
  refine zm_sub [] rfl ?_
  exact k u hq
theorem gX0_tell_79 {d : Nat} {Q : Value → zm_S → Prop} {w : zm_S} (k : Q .null w) : zm_T zc_H d mX0_tell Q 79 [] [] w := by
  exact zm_return dX0_tell_79 rfl k
theorem gX0_countAnew_0 {d : Nat} {Q : Value → zm_S → Prop} {w : zm_S} {a1 : Int32} {a2 : Int32} {Q' : Value → zm_S → Prop} (hC : zm_C zc_H d mJ7_fill_53178 [.ref 7, .int (0 : Int32)] (zm_pi (zm_pi (zm_pi w 2 9 a1) 2 10 (((1 : Int32) <<< (a1 &&& 31)) - (1 : Int32))) 2 11 a2) Q') (k : ∀ (u : zm_S), Q' .null u → zm_T zc_H (d + 1) mX0_countAnew Q 30 [(0, .ref 2)] [] u) : zm_T zc_H (d + 1) mX0_countAnew Q 0 [(0, .ref 2), (1, .int a1), (2, .int a2)] [] w := by
  refine zm_aload_n (x := 2) 0 dX0_countAnew_0 rfl rfl ?_
  refine zm_iload_n (x := a1) 1 dX0_countAnew_1 rfl rfl ?_
  refine zm_putf (j := 9) (ty := .int) dX0_countAnew_2 clX0 flX0_38 (Nat.le_of_ble_eq_true rfl) zc_H2 rfl rfl (by decide +kernel) rfl rfl ?_
  refine zm_aload_n (x := 2) 0 dX0_countAnew_5 rfl rfl ?_
  refine zm_iconst dX0_countAnew_6 (v := (1 : Int32)) (by decide) ?_
  refine zm_aload_n (x := 2) 0 dX0_countAnew_7 rfl rfl ?_
  refine zm_getf (v := .int a1) (j := 9) dX0_countAnew_8 clX0 flX0_38 (Nat.le_of_ble_eq_true rfl) zc_H2 rfl rfl ?_
  refine zm_ishl dX0_countAnew_11 ?_
  refine zm_iconst dX0_countAnew_12 (v := (1 : Int32)) (by decide) ?_
  refine zm_isub dX0_countAnew_13 ?_
  refine zm_putf (j := 10) (ty := .int) dX0_countAnew_14 clX0 flX0_42 (Nat.le_of_ble_eq_true rfl) zc_H2 rfl rfl (by decide +kernel) rfl rfl ?_
  refine zm_aload_n (x := 2) 0 dX0_countAnew_17 rfl rfl ?_
  refine zm_iload_n (x := a2) 2 dX0_countAnew_18 rfl rfl ?_
  refine zm_putf (j := 11) (ty := .int) dX0_countAnew_19 clX0 flX0_45 (Nat.le_of_ble_eq_true rfl) zc_H2 rfl rfl (by decide +kernel) rfl rfl ?_
  refine zm_aload_n (x := 2) 0 dX0_countAnew_22 rfl rfl ?_
  refine zm_getf (v := .ref 7) (j := 4) dX0_countAnew_23 clX0 flX0_25 (Nat.le_of_ble_eq_true rfl) zc_H2 rfl rfl ?_
  refine zm_iconst dX0_countAnew_26 (v := (0 : Int32)) (by decide) ?_
  refine zm_callSv (as := [.ref 7, .int (0 : Int32)]) (rest := []) dX0_countAnew_27 rfl mtJ7_fill_53178 lkX0_59 rfl (Nat.le_of_ble_eq_true rfl) hC rfl (fun u hq => ?_)
  refine zm_sub [0] rfl ?_
  exact k u hq
theorem gX0_countAnew_30 {d : Nat} {Q : Value → zm_S → Prop} {w : zm_S} {Q' : Value → zm_S → Prop} (hC : zm_C zc_H d mJ7_fill_53178 [.ref 8, .int (0 : Int32)] w Q') (k : ∀ (u : zm_S), Q' .null u → zm_T zc_H (d + 1) mX0_countAnew Q 38 [(0, .ref 2)] [] u) : zm_T zc_H (d + 1) mX0_countAnew Q 30 [(0, .ref 2)] [] w := by
  refine zm_aload_n (x := 2) 0 dX0_countAnew_30 rfl rfl ?_
  refine zm_getf (v := .ref 8) (j := 5) dX0_countAnew_31 clX0 flX0_29 (Nat.le_of_ble_eq_true rfl) zc_H2 rfl rfl ?_
  refine zm_iconst dX0_countAnew_34 (v := (0 : Int32)) (by decide) ?_
  refine zm_callSv (as := [.ref 8, .int (0 : Int32)]) (rest := []) dX0_countAnew_35 rfl mtJ7_fill_53178 lkX0_59 rfl (Nat.le_of_ble_eq_true rfl) hC rfl (fun u hq => ?_)
  exact k u hq
theorem gX0_countAnew_38 {d : Nat} {Q : Value → zm_S → Prop} {w : zm_S} {Q' : Value → zm_S → Prop} (hC : zm_C zc_H d mJ7_fill_53178 [.ref 9, .int (0 : Int32)] w Q') (k : ∀ (u : zm_S), Q' .null u → zm_T zc_H (d + 1) mX0_countAnew Q 46 [(0, .ref 2)] [] u) : zm_T zc_H (d + 1) mX0_countAnew Q 38 [(0, .ref 2)] [] w := by
  refine zm_aload_n (x := 2) 0 dX0_countAnew_38 rfl rfl ?_
  refine zm_getf (v := .ref 9) (j := 6) dX0_countAnew_39 clX0 flX0_32 (Nat.le_of_ble_eq_true rfl) zc_H2 rfl rfl ?_
  refine zm_iconst dX0_countAnew_42 (v := (0 : Int32)) (by decide) ?_
  refine zm_callSv (as := [.ref 9, .int (0 : Int32)]) (rest := []) dX0_countAnew_43 rfl mtJ7_fill_53178 lkX0_59 rfl (Nat.le_of_ble_eq_true rfl) hC rfl (fun u hq => ?_)
  exact k u hq
theorem gX0_countAnew_46 {d : Nat} {Q : Value → zm_S → Prop} {w : zm_S} {Q' : Value → zm_S → Prop} (hC : zm_C zc_H d mJ7_fill_53178 [.ref 10, .int (0 : Int32)] w Q') (k : ∀ (u : zm_S), Q' .null u → zm_T zc_H (d + 1) mX0_countAnew Q 54 [(0, .ref 2)] [] u) : zm_T zc_H (d + 1) mX0_countAnew Q 46 [(0, .ref 2)] [] w := by
  refine zm_aload_n (x := 2) 0 dX0_countAnew_46 rfl rfl ?_
  refine zm_getf (v := .ref 10) (j := 7) dX0_countAnew_47 clX0 flX0_35 (Nat.le_of_ble_eq_true rfl) zc_H2 rfl rfl ?_
  refine zm_iconst dX0_countAnew_50 (v := (0 : Int32)) (by decide) ?_
  refine zm_callSv (as := [.ref 10, .int (0 : Int32)]) (rest := []) dX0_countAnew_51 rfl mtJ7_fill_53178 lkX0_59 rfl (Nat.le_of_ble_eq_true rfl) hC rfl (fun u hq => ?_)
  exact k u hq
theorem gX0_countAnew_54 {d : Nat} {Q : Value → zm_S → Prop} {w : zm_S} (k : zm_T zc_H d mX0_countAnew Q 56 [(0, .ref 2), (3, .int (0 : Int32))] [] w) : zm_T zc_H d mX0_countAnew Q 54 [(0, .ref 2)] [] w := by
  refine zm_iconst dX0_countAnew_54 (v := (0 : Int32)) (by decide) ?_
  refine zm_istore_n dX0_countAnew_55 rfl (Nat.le_of_ble_eq_true rfl) (ls' := [(3, .int (0 : Int32)), (0, .ref 2)]) rfl ?_
  refine zm_sub [1, 0] rfl ?_
  exact k
theorem gX0_countAnew_56 {d : Nat} {Q : Value → zm_S → Prop} {w : zm_S} {a3 : Int32} (kt : (w.1 2 8) ≤ a3 → zm_T zc_H d mX0_countAnew Q 105 [] [] w) (kf : ¬ (w.1 2 8) ≤ a3 → zm_T zc_H d mX0_countAnew Q 64 [(0, .ref 2), (3, .int a3)] [] w) : zm_T zc_H d mX0_countAnew Q 56 [(0, .ref 2), (3, .int a3)] [] w := by
  refine zm_iload_n (x := a3) 1 dX0_countAnew_56 rfl rfl ?_
  refine zm_aload_n (x := 2) 0 dX0_countAnew_57 rfl rfl ?_
  refine zm_getf (v := .int (w.1 2 8)) (j := 8) dX0_countAnew_58 clX0 flX0_48 (Nat.le_of_ble_eq_true rfl) zc_H2 rfl rfl ?_
  refine zm_icmp_ge 105 dX0_countAnew_61 (by decide) (fun h => ?_) (fun h => ?_)
  · refine zm_sub [] rfl ?_
    exact kt h
  · exact kf h
theorem gX0_countAnew_64 {d : Nat} {Q : Value → zm_S → Prop} {w : zm_S} {a3 : Int32} (hi69 : vp_in a3 160) (kt : (w.1 2 11) < (w.1 6 (a3).toNatClampNeg) → zm_T zc_H d mX0_countAnew Q 105 [] [] w) (kf : ¬ (w.1 2 11) < (w.1 6 (a3).toNatClampNeg) → zm_T zc_H d mX0_countAnew Q 77 [(0, .ref 2), (3, .int a3)] [] w) : zm_T zc_H d mX0_countAnew Q 64 [(0, .ref 2), (3, .int a3)] [] w := by
  refine zm_aload_n (x := 2) 0 dX0_countAnew_64 rfl rfl ?_
  refine zm_getf (v := .ref 6) (j := 3) dX0_countAnew_65 clX0 flX0_21 (Nat.le_of_ble_eq_true rfl) zc_H2 rfl rfl ?_
  refine zm_iload_n (x := a3) 1 dX0_countAnew_68 rfl rfl ?_
  refine zm_sald dX0_countAnew_69 zc_H6 hi69 ?_
  refine zm_aload_n (x := 2) 0 dX0_countAnew_70 rfl rfl ?_
  refine zm_getf (v := .int (w.1 2 11)) (j := 11) dX0_countAnew_71 clX0 flX0_45 (Nat.le_of_ble_eq_true rfl) zc_H2 rfl rfl ?_
  refine zm_icmp_gt 105 dX0_countAnew_74 (by decide) (fun h => ?_) (fun h => ?_)
  · refine zm_sub [] rfl ?_
    exact kt h
  · exact kf h
theorem gX0_countAnew_77 {d : Nat} {Q : Value → zm_S → Prop} {w : zm_S} {a3 : Int32} {Q' : Value → zm_S → Prop} (hi83 : vp_in a3 160) (hi89 : vp_in a3 160) (hi95 : vp_in a3 160) (hC : zm_C zc_H d mX0_hear [.ref 2, .int (w.1 3 (a3).toNatClampNeg), .int (w.1 4 (a3).toNatClampNeg), .int (w.1 5 (a3).toNatClampNeg)] w Q') (k : ∀ (u : zm_S), Q' .null u → zm_T zc_H (d + 1) mX0_countAnew Q 99 [(0, .ref 2), (3, .int a3)] [] u) : zm_T zc_H (d + 1) mX0_countAnew Q 77 [(0, .ref 2), (3, .int a3)] [] w := by
  refine zm_aload_n (x := 2) 0 dX0_countAnew_77 rfl rfl ?_
  refine zm_aload_n (x := 2) 0 dX0_countAnew_78 rfl rfl ?_
  refine zm_getf (v := .ref 3) (j := 0) dX0_countAnew_79 clX0 flX0_9 (Nat.le_of_ble_eq_true rfl) zc_H2 rfl rfl ?_
  refine zm_iload_n (x := a3) 1 dX0_countAnew_82 rfl rfl ?_
  refine zm_bald dX0_countAnew_83 zc_H3 hi83 ?_
  refine zm_aload_n (x := 2) 0 dX0_countAnew_84 rfl rfl ?_
  refine zm_getf (v := .ref 4) (j := 1) dX0_countAnew_85 clX0 flX0_15 (Nat.le_of_ble_eq_true rfl) zc_H2 rfl rfl ?_
  refine zm_iload_n (x := a3) 1 dX0_countAnew_88 rfl rfl ?_
  refine zm_bald dX0_countAnew_89 zc_H4 hi89 ?_
  refine zm_aload_n (x := 2) 0 dX0_countAnew_90 rfl rfl ?_
  refine zm_getf (v := .ref 5) (j := 2) dX0_countAnew_91 clX0 flX0_18 (Nat.le_of_ble_eq_true rfl) zc_H2 rfl rfl ?_
  refine zm_iload_n (x := a3) 1 dX0_countAnew_94 rfl rfl ?_
  refine zm_bald dX0_countAnew_95 zc_H5 hi95 ?_
  refine zm_callVv (as := [.int (w.1 3 (a3).toNatClampNeg), .int (w.1 4 (a3).toNatClampNeg), .int (w.1 5 (a3).toNatClampNeg)]) (rest := []) dX0_countAnew_96 rfl mtX0_hear lkX0_55 zc_H2 (C := RX0) rfl rfl rfl (Nat.le_of_ble_eq_true rfl) hC rfl (fun u hq => ?_)
  exact k u hq
theorem gX0_countAnew_99 {d : Nat} {Q : Value → zm_S → Prop} {w : zm_S} {a3 : Int32} (k : zm_T zc_H d mX0_countAnew Q 56 [(0, .ref 2), (3, .int (a3 + (1 : Int32)))] [] w) : zm_T zc_H d mX0_countAnew Q 99 [(0, .ref 2), (3, .int a3)] [] w := by
  refine zm_iinc 1 dX0_countAnew_99 (x := a3) (v := (a3 + (1 : Int32))) rfl rfl (Nat.le_of_ble_eq_true rfl) (ls' := [(3, .int (a3 + (1 : Int32))), (0, .ref 2)]) rfl ?_
  refine zm_goto 56 dX0_countAnew_102 (by decide) ?_
  refine zm_sub [1, 0] rfl ?_
  exact k
theorem gX0_countAnew_105 {d : Nat} {Q : Value → zm_S → Prop} {w : zm_S} (k : Q .null w) : zm_T zc_H d mX0_countAnew Q 105 [] [] w := by
  exact zm_return dX0_countAnew_105 rfl k
theorem gX0_hear_0 {d : Nat} {Q : Value → zm_S → Prop} {w : zm_S} {a1 : Int32} {a2 : Int32} {a3 : Int32} (hi10 : vp_in a1 12) (kt : ¬ a3 = (1 : Int32) → zm_T zc_H d mX0_hear Q 21 [(0, .ref 2), (1, .int a1), (2, .int a2), (3, .int a3)] [.int a2, .int (w.1 7 (a1).toNatClampNeg), .int a1, .ref 7] w) (kf : a3 = (1 : Int32) → zm_T zc_H d mX0_hear Q 17 [(0, .ref 2), (1, .int a1), (2, .int a2), (3, .int a3)] [.int a2, .int (w.1 7 (a1).toNatClampNeg), .int a1, .ref 7] w) : zm_T zc_H d mX0_hear Q 0 [(0, .ref 2), (1, .int a1), (2, .int a2), (3, .int a3)] [] w := by
  refine zm_aload_n (x := 2) 0 dX0_hear_0 rfl rfl ?_
  refine zm_getf (v := .ref 7) (j := 4) dX0_hear_1 clX0 flX0_25 (Nat.le_of_ble_eq_true rfl) zc_H2 rfl rfl ?_
  refine zm_iload_n (x := a1) 1 dX0_hear_4 rfl rfl ?_
  refine zm_aload_n (x := 2) 0 dX0_hear_5 rfl rfl ?_
  refine zm_getf (v := .ref 7) (j := 4) dX0_hear_6 clX0 flX0_25 (Nat.le_of_ble_eq_true rfl) zc_H2 rfl rfl ?_
  refine zm_iload_n (x := a1) 1 dX0_hear_9 rfl rfl ?_
  refine zm_iald dX0_hear_10 zc_H7 hi10 ?_
  refine zm_iload_n (x := a2) 2 dX0_hear_11 rfl rfl ?_
  refine zm_iload_n (x := a3) 3 dX0_hear_12 rfl rfl ?_
  refine zm_iconst dX0_hear_13 (v := (1 : Int32)) (by decide) ?_
  refine zm_icmp_ne 21 dX0_hear_14 (by decide) (fun h => ?_) (fun h => ?_)
  · exact kt h
  · exact kf h
theorem gX0_hear_17 {d : Nat} {Q : Value → zm_S → Prop} {w : zm_S} {a1 : Int32} {a2 : Int32} {a3 : Int32} {s0 : Int32} {s1 : Int32} {s2 : Int32} (k : zm_T zc_H d mX0_hear Q 22 [(0, .ref 2), (1, .int a1), (2, .int a2), (3, .int a3)] [.int (1 : Int32), .int s0, .int s1, .int s2, .ref 7] w) : zm_T zc_H d mX0_hear Q 17 [(0, .ref 2), (1, .int a1), (2, .int a2), (3, .int a3)] [.int s0, .int s1, .int s2, .ref 7] w := by
  refine zm_iconst dX0_hear_17 (v := (1 : Int32)) (by decide) ?_
  refine zm_goto 22 dX0_hear_18 (by decide) ?_
  exact k
theorem gX0_hear_21 {d : Nat} {Q : Value → zm_S → Prop} {w : zm_S} {a1 : Int32} {a2 : Int32} {a3 : Int32} {s0 : Int32} {s1 : Int32} {s2 : Int32} (k : zm_T zc_H d mX0_hear Q 22 [(0, .ref 2), (1, .int a1), (2, .int a2), (3, .int a3)] [.int (0 : Int32), .int s0, .int s1, .int s2, .ref 7] w) : zm_T zc_H d mX0_hear Q 21 [(0, .ref 2), (1, .int a1), (2, .int a2), (3, .int a3)] [.int s0, .int s1, .int s2, .ref 7] w := by
  refine zm_iconst dX0_hear_21 (v := (0 : Int32)) (by decide) ?_
  exact k
theorem gX0_hear_22 {d : Nat} {Q : Value → zm_S → Prop} {w : zm_S} {a1 : Int32} {a2 : Int32} {a3 : Int32} {s0 : Int32} {s1 : Int32} {s2 : Int32} {s3 : Int32} {Q' : Value → zm_S → Prop} (hC : zm_C zc_H d mX0_withBit [.int s2, .int s1, .int s0] w Q') (k : ∀ (r : Int32) (u : zm_S), Q' (.int r) u → zm_T zc_H (d + 1) mX0_hear Q 25 [(0, .ref 2), (1, .int a1), (2, .int a2), (3, .int a3)] [.int r, .int s3, .ref 7] u) : zm_T zc_H (d + 1) mX0_hear Q 22 [(0, .ref 2), (1, .int a1), (2, .int a2), (3, .int a3)] [.int s0, .int s1, .int s2, .int s3, .ref 7] w := by
  refine zm_callSi (as := [.int s2, .int s1, .int s0]) (rest := [.int s3, .ref 7]) dX0_hear_22 rfl mtX0_withBit lkX0_65 rfl (Nat.le_of_ble_eq_true rfl) hC rfl (fun r u hq => ?_)
  exact k r u hq
theorem gX0_hear_25 {d : Nat} {Q : Value → zm_S → Prop} {w : zm_S} {a1 : Int32} {a2 : Int32} {a3 : Int32} {s0 : Int32} {s1 : Int32} (hi25 : vp_in s1 12) (hi36 : vp_in a1 12) (kt : ¬ a3 = 0 → zm_T zc_H d mX0_hear Q 46 [(0, .ref 2), (1, .int a1), (2, .int a2), (3, .int a3)] [.int a2, .int (w.1 8 (a1).toNatClampNeg), .int a1, .ref 8] (zm_pi w 7 (s1).toNatClampNeg s0)) (kf : a3 = 0 → zm_T zc_H d mX0_hear Q 42 [(0, .ref 2), (1, .int a1), (2, .int a2), (3, .int a3)] [.int a2, .int (w.1 8 (a1).toNatClampNeg), .int a1, .ref 8] (zm_pi w 7 (s1).toNatClampNeg s0)) : zm_T zc_H d mX0_hear Q 25 [(0, .ref 2), (1, .int a1), (2, .int a2), (3, .int a3)] [.int s0, .int s1, .ref 7] w := by
  refine zm_iast dX0_hear_25 zc_H7 hi25 ?_
  refine zm_aload_n (x := 2) 0 dX0_hear_26 rfl rfl ?_
  refine zm_getf (v := .ref 8) (j := 5) dX0_hear_27 clX0 flX0_29 (Nat.le_of_ble_eq_true rfl) zc_H2 rfl rfl ?_
  refine zm_iload_n (x := a1) 1 dX0_hear_30 rfl rfl ?_
  refine zm_aload_n (x := 2) 0 dX0_hear_31 rfl rfl ?_
  refine zm_getf (v := .ref 8) (j := 5) dX0_hear_32 clX0 flX0_29 (Nat.le_of_ble_eq_true rfl) zc_H2 rfl rfl ?_
  refine zm_iload_n (x := a1) 1 dX0_hear_35 rfl rfl ?_
  refine zm_iald dX0_hear_36 zc_H8 hi36 ?_
  refine zm_iload_n (x := a2) 2 dX0_hear_37 rfl rfl ?_
  refine zm_iload_n (x := a3) 3 dX0_hear_38 rfl rfl ?_
  refine zm_if_ne 46 dX0_hear_39 (by decide) (fun h => ?_) (fun h => ?_)
  · exact kt h
  · exact kf h
theorem gX0_hear_42 {d : Nat} {Q : Value → zm_S → Prop} {w : zm_S} {a1 : Int32} {a2 : Int32} {a3 : Int32} {s0 : Int32} {s1 : Int32} {s2 : Int32} (k : zm_T zc_H d mX0_hear Q 47 [(0, .ref 2), (1, .int a1), (2, .int a2), (3, .int a3)] [.int (1 : Int32), .int s0, .int s1, .int s2, .ref 8] w) : zm_T zc_H d mX0_hear Q 42 [(0, .ref 2), (1, .int a1), (2, .int a2), (3, .int a3)] [.int s0, .int s1, .int s2, .ref 8] w := by
  refine zm_iconst dX0_hear_42 (v := (1 : Int32)) (by decide) ?_
  refine zm_goto 47 dX0_hear_43 (by decide) ?_
  exact k
theorem gX0_hear_46 {d : Nat} {Q : Value → zm_S → Prop} {w : zm_S} {a1 : Int32} {a2 : Int32} {a3 : Int32} {s0 : Int32} {s1 : Int32} {s2 : Int32} (k : zm_T zc_H d mX0_hear Q 47 [(0, .ref 2), (1, .int a1), (2, .int a2), (3, .int a3)] [.int (0 : Int32), .int s0, .int s1, .int s2, .ref 8] w) : zm_T zc_H d mX0_hear Q 46 [(0, .ref 2), (1, .int a1), (2, .int a2), (3, .int a3)] [.int s0, .int s1, .int s2, .ref 8] w := by
  refine zm_iconst dX0_hear_46 (v := (0 : Int32)) (by decide) ?_
  exact k
theorem gX0_hear_47 {d : Nat} {Q : Value → zm_S → Prop} {w : zm_S} {a1 : Int32} {a2 : Int32} {a3 : Int32} {s0 : Int32} {s1 : Int32} {s2 : Int32} {s3 : Int32} {Q' : Value → zm_S → Prop} (hC : zm_C zc_H d mX0_withBit [.int s2, .int s1, .int s0] w Q') (k : ∀ (r : Int32) (u : zm_S), Q' (.int r) u → zm_T zc_H (d + 1) mX0_hear Q 50 [(0, .ref 2), (1, .int a1), (2, .int a2), (3, .int a3)] [.int r, .int s3, .ref 8] u) : zm_T zc_H (d + 1) mX0_hear Q 47 [(0, .ref 2), (1, .int a1), (2, .int a2), (3, .int a3)] [.int s0, .int s1, .int s2, .int s3, .ref 8] w := by
  refine zm_callSi (as := [.int s2, .int s1, .int s0]) (rest := [.int s3, .ref 8]) dX0_hear_47 rfl mtX0_withBit lkX0_65 rfl (Nat.le_of_ble_eq_true rfl) hC rfl (fun r u hq => ?_)
  exact k r u hq
theorem gX0_hear_50 {d : Nat} {Q : Value → zm_S → Prop} {w : zm_S} {a1 : Int32} {a2 : Int32} {a3 : Int32} {s0 : Int32} {s1 : Int32} (hi50 : vp_in s1 12) (hi61 : vp_in a2 7) (kt : ¬ a3 = (1 : Int32) → zm_T zc_H d mX0_hear Q 72 [(0, .ref 2), (1, .int a1), (2, .int a2), (3, .int a3)] [.int a1, .int (w.1 9 (a2).toNatClampNeg), .int a2, .ref 9] (zm_pi w 8 (s1).toNatClampNeg s0)) (kf : a3 = (1 : Int32) → zm_T zc_H d mX0_hear Q 68 [(0, .ref 2), (1, .int a1), (2, .int a2), (3, .int a3)] [.int a1, .int (w.1 9 (a2).toNatClampNeg), .int a2, .ref 9] (zm_pi w 8 (s1).toNatClampNeg s0)) : zm_T zc_H d mX0_hear Q 50 [(0, .ref 2), (1, .int a1), (2, .int a2), (3, .int a3)] [.int s0, .int s1, .ref 8] w := by
  refine zm_iast dX0_hear_50 zc_H8 hi50 ?_
  refine zm_aload_n (x := 2) 0 dX0_hear_51 rfl rfl ?_
  refine zm_getf (v := .ref 9) (j := 6) dX0_hear_52 clX0 flX0_32 (Nat.le_of_ble_eq_true rfl) zc_H2 rfl rfl ?_
  refine zm_iload_n (x := a2) 2 dX0_hear_55 rfl rfl ?_
  refine zm_aload_n (x := 2) 0 dX0_hear_56 rfl rfl ?_
  refine zm_getf (v := .ref 9) (j := 6) dX0_hear_57 clX0 flX0_32 (Nat.le_of_ble_eq_true rfl) zc_H2 rfl rfl ?_
  refine zm_iload_n (x := a2) 2 dX0_hear_60 rfl rfl ?_
  refine zm_iald dX0_hear_61 zc_H9 hi61 ?_
  refine zm_iload_n (x := a1) 1 dX0_hear_62 rfl rfl ?_
  refine zm_iload_n (x := a3) 3 dX0_hear_63 rfl rfl ?_
  refine zm_iconst dX0_hear_64 (v := (1 : Int32)) (by decide) ?_
  refine zm_icmp_ne 72 dX0_hear_65 (by decide) (fun h => ?_) (fun h => ?_)
  · exact kt h
  · exact kf h
theorem gX0_hear_68 {d : Nat} {Q : Value → zm_S → Prop} {w : zm_S} {a1 : Int32} {a2 : Int32} {a3 : Int32} {s0 : Int32} {s1 : Int32} {s2 : Int32} (k : zm_T zc_H d mX0_hear Q 73 [(0, .ref 2), (1, .int a1), (2, .int a2), (3, .int a3)] [.int (1 : Int32), .int s0, .int s1, .int s2, .ref 9] w) : zm_T zc_H d mX0_hear Q 68 [(0, .ref 2), (1, .int a1), (2, .int a2), (3, .int a3)] [.int s0, .int s1, .int s2, .ref 9] w := by
  refine zm_iconst dX0_hear_68 (v := (1 : Int32)) (by decide) ?_
  refine zm_goto 73 dX0_hear_69 (by decide) ?_
  exact k
theorem gX0_hear_72 {d : Nat} {Q : Value → zm_S → Prop} {w : zm_S} {a1 : Int32} {a2 : Int32} {a3 : Int32} {s0 : Int32} {s1 : Int32} {s2 : Int32} (k : zm_T zc_H d mX0_hear Q 73 [(0, .ref 2), (1, .int a1), (2, .int a2), (3, .int a3)] [.int (0 : Int32), .int s0, .int s1, .int s2, .ref 9] w) : zm_T zc_H d mX0_hear Q 72 [(0, .ref 2), (1, .int a1), (2, .int a2), (3, .int a3)] [.int s0, .int s1, .int s2, .ref 9] w := by
  refine zm_iconst dX0_hear_72 (v := (0 : Int32)) (by decide) ?_
  exact k
theorem gX0_hear_73 {d : Nat} {Q : Value → zm_S → Prop} {w : zm_S} {a1 : Int32} {a2 : Int32} {a3 : Int32} {s0 : Int32} {s1 : Int32} {s2 : Int32} {s3 : Int32} {Q' : Value → zm_S → Prop} (hC : zm_C zc_H d mX0_withBit [.int s2, .int s1, .int s0] w Q') (k : ∀ (r : Int32) (u : zm_S), Q' (.int r) u → zm_T zc_H (d + 1) mX0_hear Q 76 [(0, .ref 2), (1, .int a1), (2, .int a2), (3, .int a3)] [.int r, .int s3, .ref 9] u) : zm_T zc_H (d + 1) mX0_hear Q 73 [(0, .ref 2), (1, .int a1), (2, .int a2), (3, .int a3)] [.int s0, .int s1, .int s2, .int s3, .ref 9] w := by
  refine zm_callSi (as := [.int s2, .int s1, .int s0]) (rest := [.int s3, .ref 9]) dX0_hear_73 rfl mtX0_withBit lkX0_65 rfl (Nat.le_of_ble_eq_true rfl) hC rfl (fun r u hq => ?_)
  exact k r u hq
theorem gX0_hear_76 {d : Nat} {Q : Value → zm_S → Prop} {w : zm_S} {a1 : Int32} {a2 : Int32} {a3 : Int32} {s0 : Int32} {s1 : Int32} (hi76 : vp_in s1 7) (hi87 : vp_in a2 7) (kt : ¬ a3 = 0 → zm_T zc_H d mX0_hear Q 97 [] [.int a1, .int (w.1 10 (a2).toNatClampNeg), .int a2, .ref 10] (zm_pi w 9 (s1).toNatClampNeg s0)) (kf : a3 = 0 → zm_T zc_H d mX0_hear Q 93 [] [.int a1, .int (w.1 10 (a2).toNatClampNeg), .int a2, .ref 10] (zm_pi w 9 (s1).toNatClampNeg s0)) : zm_T zc_H d mX0_hear Q 76 [(0, .ref 2), (1, .int a1), (2, .int a2), (3, .int a3)] [.int s0, .int s1, .ref 9] w := by
  refine zm_iast dX0_hear_76 zc_H9 hi76 ?_
  refine zm_aload_n (x := 2) 0 dX0_hear_77 rfl rfl ?_
  refine zm_getf (v := .ref 10) (j := 7) dX0_hear_78 clX0 flX0_35 (Nat.le_of_ble_eq_true rfl) zc_H2 rfl rfl ?_
  refine zm_iload_n (x := a2) 2 dX0_hear_81 rfl rfl ?_
  refine zm_aload_n (x := 2) 0 dX0_hear_82 rfl rfl ?_
  refine zm_getf (v := .ref 10) (j := 7) dX0_hear_83 clX0 flX0_35 (Nat.le_of_ble_eq_true rfl) zc_H2 rfl rfl ?_
  refine zm_iload_n (x := a2) 2 dX0_hear_86 rfl rfl ?_
  refine zm_iald dX0_hear_87 zc_H10 hi87 ?_
  refine zm_iload_n (x := a1) 1 dX0_hear_88 rfl rfl ?_
  refine zm_iload_n (x := a3) 3 dX0_hear_89 rfl rfl ?_
  refine zm_if_ne 97 dX0_hear_90 (by decide) (fun h => ?_) (fun h => ?_)
  · refine zm_sub [] rfl ?_
    exact kt h
  · refine zm_sub [] rfl ?_
    exact kf h
theorem gX0_hear_93 {d : Nat} {Q : Value → zm_S → Prop} {w : zm_S} {s0 : Int32} {s1 : Int32} {s2 : Int32} (k : zm_T zc_H d mX0_hear Q 98 [] [.int (1 : Int32), .int s0, .int s1, .int s2, .ref 10] w) : zm_T zc_H d mX0_hear Q 93 [] [.int s0, .int s1, .int s2, .ref 10] w := by
  refine zm_iconst dX0_hear_93 (v := (1 : Int32)) (by decide) ?_
  refine zm_goto 98 dX0_hear_94 (by decide) ?_
  exact k
theorem gX0_hear_97 {d : Nat} {Q : Value → zm_S → Prop} {w : zm_S} {s0 : Int32} {s1 : Int32} {s2 : Int32} (k : zm_T zc_H d mX0_hear Q 98 [] [.int (0 : Int32), .int s0, .int s1, .int s2, .ref 10] w) : zm_T zc_H d mX0_hear Q 97 [] [.int s0, .int s1, .int s2, .ref 10] w := by
  refine zm_iconst dX0_hear_97 (v := (0 : Int32)) (by decide) ?_
  exact k
theorem gX0_hear_98 {d : Nat} {Q : Value → zm_S → Prop} {w : zm_S} {s0 : Int32} {s1 : Int32} {s2 : Int32} {s3 : Int32} {Q' : Value → zm_S → Prop} (hC : zm_C zc_H d mX0_withBit [.int s2, .int s1, .int s0] w Q') (k : ∀ (r : Int32) (u : zm_S), Q' (.int r) u → zm_T zc_H (d + 1) mX0_hear Q 101 [] [.int r, .int s3, .ref 10] u) : zm_T zc_H (d + 1) mX0_hear Q 98 [] [.int s0, .int s1, .int s2, .int s3, .ref 10] w := by
  refine zm_callSi (as := [.int s2, .int s1, .int s0]) (rest := [.int s3, .ref 10]) dX0_hear_98 rfl mtX0_withBit lkX0_65 rfl (Nat.le_of_ble_eq_true rfl) hC rfl (fun r u hq => ?_)
  exact k r u hq
theorem gX0_hear_101 {d : Nat} {Q : Value → zm_S → Prop} {w : zm_S} {s0 : Int32} {s1 : Int32} (hi101 : vp_in s1 7) (k : Q .null (zm_pi w 10 (s1).toNatClampNeg s0)) : zm_T zc_H d mX0_hear Q 101 [] [.int s0, .int s1, .ref 10] w := by
  refine zm_iast dX0_hear_101 zc_H10 hi101 ?_
  exact zm_return dX0_hear_102 rfl k
theorem gX0_withBit_0 {d : Nat} {Q : Value → zm_S → Prop} {w : zm_S} {a0 : Int32} {a1 : Int32} {a2 : Int32} (kt : a2 = 0 → zm_T zc_H d mX0_withBit Q 14 [(0, .int a0), (3, .int ((1 : Int32) <<< (a1 &&& 31)))] [] w) (kf : ¬ a2 = 0 → zm_T zc_H d mX0_withBit Q 8 [(0, .int a0), (3, .int ((1 : Int32) <<< (a1 &&& 31)))] [] w) : zm_T zc_H d mX0_withBit Q 0 [(0, .int a0), (1, .int a1), (2, .int a2)] [] w := by
  refine zm_iconst dX0_withBit_0 (v := (1 : Int32)) (by decide) ?_
  refine zm_iload_n (x := a1) 1 dX0_withBit_1 rfl rfl ?_
  refine zm_ishl dX0_withBit_2 ?_
  refine zm_istore_n dX0_withBit_3 rfl (Nat.le_of_ble_eq_true rfl) (ls' := [(3, .int ((1 : Int32) <<< (a1 &&& 31))), (0, .int a0), (1, .int a1), (2, .int a2)]) rfl ?_
  refine zm_iload_n (x := a2) 3 dX0_withBit_4 rfl rfl ?_
  refine zm_if_eq 14 dX0_withBit_5 (by decide) (fun h => ?_) (fun h => ?_)
  · refine zm_sub [1, 0] rfl ?_
    exact kt h
  · refine zm_sub [1, 0] rfl ?_
    exact kf h
theorem gX0_withBit_8 {d : Nat} {Q : Value → zm_S → Prop} {w : zm_S} {a0 : Int32} {a3 : Int32} (k : Q (.int (a0 ||| a3)) w) : zm_T zc_H d mX0_withBit Q 8 [(0, .int a0), (3, .int a3)] [] w := by
  refine zm_iload_n (x := a0) 0 dX0_withBit_8 rfl rfl ?_
  refine zm_iload_n (x := a3) 1 dX0_withBit_9 rfl rfl ?_
  refine zm_ior dX0_withBit_10 ?_
  refine zm_goto 19 dX0_withBit_11 (by decide) ?_
  exact zm_ireturn dX0_withBit_19 rfl k
theorem gX0_withBit_14 {d : Nat} {Q : Value → zm_S → Prop} {w : zm_S} {a0 : Int32} {a3 : Int32} (k : Q (.int (a0 &&& (a3 ^^^ (-1 : Int32)))) w) : zm_T zc_H d mX0_withBit Q 14 [(0, .int a0), (3, .int a3)] [] w := by
  refine zm_iload_n (x := a0) 0 dX0_withBit_14 rfl rfl ?_
  refine zm_iload_n (x := a3) 1 dX0_withBit_15 rfl rfl ?_
  refine zm_iconst dX0_withBit_16 (v := (-1 : Int32)) (by decide) ?_
  refine zm_ixor dX0_withBit_17 ?_
  refine zm_iand dX0_withBit_18 ?_
  exact zm_ireturn dX0_withBit_19 rfl k
theorem gX0_heard_0 {d : Nat} {Q : Value → zm_S → Prop} {w : zm_S} {a1 : Int32} {a2 : Int32} (hi9 : vp_in a1 12) (kt : ((w.1 7 (a1).toNatClampNeg) &&& ((1 : Int32) <<< (a2 &&& 31))) = 0 → zm_T zc_H d mX0_heard Q 17 [(0, .ref 2), (1, .int a1), (3, .int ((1 : Int32) <<< (a2 &&& 31)))] [] w) (kf : ¬ ((w.1 7 (a1).toNatClampNeg) &&& ((1 : Int32) <<< (a2 &&& 31))) = 0 → zm_T zc_H d mX0_heard Q 15 [] [] w) : zm_T zc_H d mX0_heard Q 0 [(0, .ref 2), (1, .int a1), (2, .int a2)] [] w := by
  refine zm_iconst dX0_heard_0 (v := (1 : Int32)) (by decide) ?_
  refine zm_iload_n (x := a2) 2 dX0_heard_1 rfl rfl ?_
  refine zm_ishl dX0_heard_2 ?_
  refine zm_istore_n dX0_heard_3 rfl (Nat.le_of_ble_eq_true rfl) (ls' := [(3, .int ((1 : Int32) <<< (a2 &&& 31))), (0, .ref 2), (1, .int a1), (2, .int a2)]) rfl ?_
  refine zm_aload_n (x := 2) 1 dX0_heard_4 rfl rfl ?_
  refine zm_getf (v := .ref 7) (j := 4) dX0_heard_5 clX0 flX0_25 (Nat.le_of_ble_eq_true rfl) zc_H2 rfl rfl ?_
  refine zm_iload_n (x := a1) 2 dX0_heard_8 rfl rfl ?_
  refine zm_iald dX0_heard_9 zc_H7 hi9 ?_
  refine zm_iload_n (x := ((1 : Int32) <<< (a2 &&& 31))) 0 dX0_heard_10 rfl rfl ?_
  refine zm_iand dX0_heard_11 ?_
  refine zm_if_eq 17 dX0_heard_12 (by decide) (fun h => ?_) (fun h => ?_)
  · refine zm_sub [1, 2, 0] rfl ?_
    exact kt h
  · refine zm_sub [] rfl ?_
    exact kf h
theorem gX0_heard_15 {d : Nat} {Q : Value → zm_S → Prop} {w : zm_S} (k : Q (.int (1 : Int32)) w) : zm_T zc_H d mX0_heard Q 15 [] [] w := by
  refine zm_iconst dX0_heard_15 (v := (1 : Int32)) (by decide) ?_
  exact zm_ireturn dX0_heard_16 rfl k
theorem gX0_heard_17 {d : Nat} {Q : Value → zm_S → Prop} {w : zm_S} {a1 : Int32} {a3 : Int32} (hi22 : vp_in a1 12) (kt : ((w.1 8 (a1).toNatClampNeg) &&& a3) = 0 → zm_T zc_H d mX0_heard Q 32 [] [] w) (kf : ¬ ((w.1 8 (a1).toNatClampNeg) &&& a3) = 0 → zm_T zc_H d mX0_heard Q 28 [] [] w) : zm_T zc_H d mX0_heard Q 17 [(0, .ref 2), (1, .int a1), (3, .int a3)] [] w := by
  refine zm_aload_n (x := 2) 0 dX0_heard_17 rfl rfl ?_
  refine zm_getf (v := .ref 8) (j := 5) dX0_heard_18 clX0 flX0_29 (Nat.le_of_ble_eq_true rfl) zc_H2 rfl rfl ?_
  refine zm_iload_n (x := a1) 1 dX0_heard_21 rfl rfl ?_
  refine zm_iald dX0_heard_22 zc_H8 hi22 ?_
  refine zm_iload_n (x := a3) 2 dX0_heard_23 rfl rfl ?_
  refine zm_iand dX0_heard_24 ?_
  refine zm_if_eq 32 dX0_heard_25 (by decide) (fun h => ?_) (fun h => ?_)
  · refine zm_sub [] rfl ?_
    exact kt h
  · refine zm_sub [] rfl ?_
    exact kf h
theorem gX0_heard_28 {d : Nat} {Q : Value → zm_S → Prop} {w : zm_S} (k : Q (.int (0 : Int32)) w) : zm_T zc_H d mX0_heard Q 28 [] [] w := by
  refine zm_iconst dX0_heard_28 (v := (0 : Int32)) (by decide) ?_
  refine zm_goto 33 dX0_heard_29 (by decide) ?_
  exact zm_ireturn dX0_heard_33 rfl k
theorem gX0_heard_32 {d : Nat} {Q : Value → zm_S → Prop} {w : zm_S} (k : Q (.int (2 : Int32)) w) : zm_T zc_H d mX0_heard Q 32 [] [] w := by
  refine zm_iconst dX0_heard_32 (v := (2 : Int32)) (by decide) ?_
  exact zm_ireturn dX0_heard_33 rfl k
theorem gX0_yesOf_0 {d : Nat} {Q : Value → zm_S → Prop} {w : zm_S} {a1 : Int32} (hi5 : vp_in a1 12) (k : Q (.int ((w.1 7 (a1).toNatClampNeg) &&& (w.1 2 10))) w) : zm_T zc_H d mX0_yesOf Q 0 [(0, .ref 2), (1, .int a1)] [] w := by
  refine zm_aload_n (x := 2) 0 dX0_yesOf_0 rfl rfl ?_
  refine zm_getf (v := .ref 7) (j := 4) dX0_yesOf_1 clX0 flX0_25 (Nat.le_of_ble_eq_true rfl) zc_H2 rfl rfl ?_
  refine zm_iload_n (x := a1) 1 dX0_yesOf_4 rfl rfl ?_
  refine zm_iald dX0_yesOf_5 zc_H7 hi5 ?_
  refine zm_aload_n (x := 2) 0 dX0_yesOf_6 rfl rfl ?_
  refine zm_getf (v := .int (w.1 2 10)) (j := 10) dX0_yesOf_7 clX0 flX0_42 (Nat.le_of_ble_eq_true rfl) zc_H2 rfl rfl ?_
  refine zm_iand dX0_yesOf_10 ?_
  exact zm_ireturn dX0_yesOf_11 rfl k
theorem gX0_noOf_0 {d : Nat} {Q : Value → zm_S → Prop} {w : zm_S} {a1 : Int32} (hi5 : vp_in a1 12) (k : Q (.int ((w.1 8 (a1).toNatClampNeg) &&& (w.1 2 10))) w) : zm_T zc_H d mX0_noOf Q 0 [(0, .ref 2), (1, .int a1)] [] w := by
  refine zm_aload_n (x := 2) 0 dX0_noOf_0 rfl rfl ?_
  refine zm_getf (v := .ref 8) (j := 5) dX0_noOf_1 clX0 flX0_29 (Nat.le_of_ble_eq_true rfl) zc_H2 rfl rfl ?_
  refine zm_iload_n (x := a1) 1 dX0_noOf_4 rfl rfl ?_
  refine zm_iald dX0_noOf_5 zc_H8 hi5 ?_
  refine zm_aload_n (x := 2) 0 dX0_noOf_6 rfl rfl ?_
  refine zm_getf (v := .int (w.1 2 10)) (j := 10) dX0_noOf_7 clX0 flX0_42 (Nat.le_of_ble_eq_true rfl) zc_H2 rfl rfl ?_
  refine zm_iand dX0_noOf_10 ?_
  exact zm_ireturn dX0_noOf_11 rfl k
theorem gX0_given_0 {d : Nat} {Q : Value → zm_S → Prop} {w : zm_S} {a1 : Int32} {Q' : Value → zm_S → Prop} (hC : zm_C zc_H d mX0_yesOf [.ref 2, .int a1] w Q') (k : ∀ (r : Int32) (u : zm_S), Q' (.int r) u → zm_T zc_H (d + 1) mX0_given Q 5 [(0, .ref 2), (1, .int a1)] [.int r] u) : zm_T zc_H (d + 1) mX0_given Q 0 [(0, .ref 2), (1, .int a1)] [] w := by
  refine zm_aload_n (x := 2) 0 dX0_given_0 rfl rfl ?_
  refine zm_iload_n (x := a1) 1 dX0_given_1 rfl rfl ?_
  refine zm_callVi (as := [.int a1]) (rest := []) dX0_given_2 rfl mtX0_yesOf lkX0_69 zc_H2 (C := RX0) rfl rfl rfl (Nat.le_of_ble_eq_true rfl) hC rfl (fun r u hq => ?_)
  exact k r u hq
theorem gX0_given_5 {d : Nat} {Q : Value → zm_S → Prop} {w : zm_S} {a1 : Int32} {s0 : Int32} {Q' : Value → zm_S → Prop} (hC : zm_C zc_H d mX0_noOf [.ref 2, .int a1] w Q') (k : ∀ (r : Int32) (u : zm_S), Q' (.int r) u → zm_T zc_H (d + 1) mX0_given Q 10 [] [.int r, .int s0] u) : zm_T zc_H (d + 1) mX0_given Q 5 [(0, .ref 2), (1, .int a1)] [.int s0] w := by
  refine zm_aload_n (x := 2) 0 dX0_given_5 rfl rfl ?_
  refine zm_iload_n (x := a1) 1 dX0_given_6 rfl rfl ?_
  refine zm_callVi (as := [.int a1]) (rest := [.int s0]) dX0_given_7 rfl mtX0_noOf lkX0_73 zc_H2 (C := RX0) rfl rfl rfl (Nat.le_of_ble_eq_true rfl) hC rfl (fun r u hq => ?_)
  refine zm_sub [] rfl ?_
  exact k r u hq
theorem gX0_given_10 {d : Nat} {Q : Value → zm_S → Prop} {w : zm_S} {s0 : Int32} {s1 : Int32} {Q' : Value → zm_S → Prop} (hC : zm_C zc_H d mJ6_bitCount_0f7a4 [.int (s1 ||| s0)] w Q') (k : ∀ (r : Int32) (u : zm_S), Q' (.int r) u → zm_T zc_H (d + 1) mX0_given Q 14 [] [.int r] u) : zm_T zc_H (d + 1) mX0_given Q 10 [] [.int s0, .int s1] w := by
  refine zm_ior dX0_given_10 ?_
  refine zm_callSi (as := [.int (s1 ||| s0)]) (rest := []) dX0_given_11 rfl mtJ6_bitCount_0f7a4 lkX0_76 rfl (Nat.le_of_ble_eq_true rfl) hC rfl (fun r u hq => ?_)
  exact k r u hq
theorem gX0_given_14 {d : Nat} {Q : Value → zm_S → Prop} {w : zm_S} {s0 : Int32} (k : Q (.int s0) w) : zm_T zc_H d mX0_given Q 14 [] [.int s0] w := by
  exact zm_ireturn dX0_given_14 rfl k
theorem gX0_givenByAll_0 {d : Nat} {Q : Value → zm_S → Prop} {w : zm_S} (k : zm_T zc_H d mX0_givenByAll Q 4 [(0, .ref 2), (1, .int (0 : Int32)), (2, .int (0 : Int32))] [] w) : zm_T zc_H d mX0_givenByAll Q 0 [(0, .ref 2)] [] w := by
  refine zm_iconst dX0_givenByAll_0 (v := (0 : Int32)) (by decide) ?_
  refine zm_istore_n dX0_givenByAll_1 rfl (Nat.le_of_ble_eq_true rfl) (ls' := [(1, .int (0 : Int32)), (0, .ref 2)]) rfl ?_
  refine zm_iconst dX0_givenByAll_2 (v := (0 : Int32)) (by decide) ?_
  refine zm_istore_n dX0_givenByAll_3 rfl (Nat.le_of_ble_eq_true rfl) (ls' := [(2, .int (0 : Int32)), (1, .int (0 : Int32)), (0, .ref 2)]) rfl ?_
  refine zm_sub [2, 1, 0] rfl ?_
  exact k
theorem gX0_givenByAll_4 {d : Nat} {Q : Value → zm_S → Prop} {w : zm_S} {a1 : Int32} {a2 : Int32} (kt : (12 : Int32) ≤ a2 → zm_T zc_H d mX0_givenByAll Q 24 [(1, .int a1)] [] w) (kf : ¬ (12 : Int32) ≤ a2 → zm_T zc_H d mX0_givenByAll Q 10 [(0, .ref 2), (1, .int a1), (2, .int a2)] [] w) : zm_T zc_H d mX0_givenByAll Q 4 [(0, .ref 2), (1, .int a1), (2, .int a2)] [] w := by
  refine zm_iload_n (x := a2) 2 dX0_givenByAll_4 rfl rfl ?_
  refine zm_bipush dX0_givenByAll_5 (v := (12 : Int32)) (by decide) ?_
  refine zm_icmp_ge 24 dX0_givenByAll_7 (by decide) (fun h => ?_) (fun h => ?_)
  · refine zm_sub [1] rfl ?_
    exact kt h
  · exact kf h
theorem gX0_givenByAll_10 {d : Nat} {Q : Value → zm_S → Prop} {w : zm_S} {a1 : Int32} {a2 : Int32} {Q' : Value → zm_S → Prop} (hC : zm_C zc_H d mX0_given [.ref 2, .int a2] w Q') (k : ∀ (r : Int32) (u : zm_S), Q' (.int r) u → zm_T zc_H (d + 1) mX0_givenByAll Q 16 [(0, .ref 2), (2, .int a2)] [.int r, .int a1] u) : zm_T zc_H (d + 1) mX0_givenByAll Q 10 [(0, .ref 2), (1, .int a1), (2, .int a2)] [] w := by
  refine zm_iload_n (x := a1) 1 dX0_givenByAll_10 rfl rfl ?_
  refine zm_aload_n (x := 2) 0 dX0_givenByAll_11 rfl rfl ?_
  refine zm_iload_n (x := a2) 2 dX0_givenByAll_12 rfl rfl ?_
  refine zm_callVi (as := [.int a2]) (rest := [.int a1]) dX0_givenByAll_13 rfl mtX0_given lkX0_81 zc_H2 (C := RX0) rfl rfl rfl (Nat.le_of_ble_eq_true rfl) hC rfl (fun r u hq => ?_)
  refine zm_sub [0, 2] rfl ?_
  exact k r u hq
theorem gX0_givenByAll_16 {d : Nat} {Q : Value → zm_S → Prop} {w : zm_S} {a2 : Int32} {s0 : Int32} {s1 : Int32} (k : zm_T zc_H d mX0_givenByAll Q 4 [(0, .ref 2), (1, .int (s1 + s0)), (2, .int (a2 + (1 : Int32)))] [] w) : zm_T zc_H d mX0_givenByAll Q 16 [(0, .ref 2), (2, .int a2)] [.int s0, .int s1] w := by
  refine zm_iadd dX0_givenByAll_16 ?_
  refine zm_istore_n dX0_givenByAll_17 rfl (Nat.le_of_ble_eq_true rfl) (ls' := [(1, .int (s1 + s0)), (0, .ref 2), (2, .int a2)]) rfl ?_
  refine zm_iinc 2 dX0_givenByAll_18 (x := a2) (v := (a2 + (1 : Int32))) rfl rfl (Nat.le_of_ble_eq_true rfl) (ls' := [(2, .int (a2 + (1 : Int32))), (1, .int (s1 + s0)), (0, .ref 2)]) rfl ?_
  refine zm_goto 4 dX0_givenByAll_21 (by decide) ?_
  refine zm_sub [2, 1, 0] rfl ?_
  exact k
theorem gX0_givenByAll_24 {d : Nat} {Q : Value → zm_S → Prop} {w : zm_S} {a1 : Int32} (k : Q (.int a1) w) : zm_T zc_H d mX0_givenByAll Q 24 [(1, .int a1)] [] w := by
  refine zm_iload_n (x := a1) 0 dX0_givenByAll_24 rfl rfl ?_
  exact zm_ireturn dX0_givenByAll_25 rfl k
theorem gX0_yesByAll_0 {d : Nat} {Q : Value → zm_S → Prop} {w : zm_S} (k : zm_T zc_H d mX0_yesByAll Q 4 [(0, .ref 2), (1, .int (0 : Int32)), (2, .int (0 : Int32))] [] w) : zm_T zc_H d mX0_yesByAll Q 0 [(0, .ref 2)] [] w := by
  refine zm_iconst dX0_yesByAll_0 (v := (0 : Int32)) (by decide) ?_
  refine zm_istore_n dX0_yesByAll_1 rfl (Nat.le_of_ble_eq_true rfl) (ls' := [(1, .int (0 : Int32)), (0, .ref 2)]) rfl ?_
  refine zm_iconst dX0_yesByAll_2 (v := (0 : Int32)) (by decide) ?_
  refine zm_istore_n dX0_yesByAll_3 rfl (Nat.le_of_ble_eq_true rfl) (ls' := [(2, .int (0 : Int32)), (1, .int (0 : Int32)), (0, .ref 2)]) rfl ?_
  refine zm_sub [2, 1, 0] rfl ?_
  exact k
theorem gX0_yesByAll_4 {d : Nat} {Q : Value → zm_S → Prop} {w : zm_S} {a1 : Int32} {a2 : Int32} (kt : (12 : Int32) ≤ a2 → zm_T zc_H d mX0_yesByAll Q 27 [(1, .int a1)] [] w) (kf : ¬ (12 : Int32) ≤ a2 → zm_T zc_H d mX0_yesByAll Q 10 [(0, .ref 2), (1, .int a1), (2, .int a2)] [] w) : zm_T zc_H d mX0_yesByAll Q 4 [(0, .ref 2), (1, .int a1), (2, .int a2)] [] w := by
  refine zm_iload_n (x := a2) 2 dX0_yesByAll_4 rfl rfl ?_
  refine zm_bipush dX0_yesByAll_5 (v := (12 : Int32)) (by decide) ?_
  refine zm_icmp_ge 27 dX0_yesByAll_7 (by decide) (fun h => ?_) (fun h => ?_)
  · refine zm_sub [1] rfl ?_
    exact kt h
  · exact kf h
theorem gX0_yesByAll_10 {d : Nat} {Q : Value → zm_S → Prop} {w : zm_S} {a1 : Int32} {a2 : Int32} {Q' : Value → zm_S → Prop} (hC : zm_C zc_H d mX0_yesOf [.ref 2, .int a2] w Q') (k : ∀ (r : Int32) (u : zm_S), Q' (.int r) u → zm_T zc_H (d + 1) mX0_yesByAll Q 16 [(0, .ref 2), (2, .int a2)] [.int r, .int a1] u) : zm_T zc_H (d + 1) mX0_yesByAll Q 10 [(0, .ref 2), (1, .int a1), (2, .int a2)] [] w := by
  refine zm_iload_n (x := a1) 1 dX0_yesByAll_10 rfl rfl ?_
  refine zm_aload_n (x := 2) 0 dX0_yesByAll_11 rfl rfl ?_
  refine zm_iload_n (x := a2) 2 dX0_yesByAll_12 rfl rfl ?_
  refine zm_callVi (as := [.int a2]) (rest := [.int a1]) dX0_yesByAll_13 rfl mtX0_yesOf lkX0_69 zc_H2 (C := RX0) rfl rfl rfl (Nat.le_of_ble_eq_true rfl) hC rfl (fun r u hq => ?_)
  refine zm_sub [0, 2] rfl ?_
  exact k r u hq
theorem gX0_yesByAll_16 {d : Nat} {Q : Value → zm_S → Prop} {w : zm_S} {a2 : Int32} {s0 : Int32} {s1 : Int32} {Q' : Value → zm_S → Prop} (hC : zm_C zc_H d mJ6_bitCount_0f7a4 [.int s0] w Q') (k : ∀ (r : Int32) (u : zm_S), Q' (.int r) u → zm_T zc_H (d + 1) mX0_yesByAll Q 19 [(0, .ref 2), (2, .int a2)] [.int r, .int s1] u) : zm_T zc_H (d + 1) mX0_yesByAll Q 16 [(0, .ref 2), (2, .int a2)] [.int s0, .int s1] w := by
  refine zm_callSi (as := [.int s0]) (rest := [.int s1]) dX0_yesByAll_16 rfl mtJ6_bitCount_0f7a4 lkX0_76 rfl (Nat.le_of_ble_eq_true rfl) hC rfl (fun r u hq => ?_)
  exact k r u hq
theorem gX0_yesByAll_19 {d : Nat} {Q : Value → zm_S → Prop} {w : zm_S} {a2 : Int32} {s0 : Int32} {s1 : Int32} (k : zm_T zc_H d mX0_yesByAll Q 4 [(0, .ref 2), (1, .int (s1 + s0)), (2, .int (a2 + (1 : Int32)))] [] w) : zm_T zc_H d mX0_yesByAll Q 19 [(0, .ref 2), (2, .int a2)] [.int s0, .int s1] w := by
  refine zm_iadd dX0_yesByAll_19 ?_
  refine zm_istore_n dX0_yesByAll_20 rfl (Nat.le_of_ble_eq_true rfl) (ls' := [(1, .int (s1 + s0)), (0, .ref 2), (2, .int a2)]) rfl ?_
  refine zm_iinc 2 dX0_yesByAll_21 (x := a2) (v := (a2 + (1 : Int32))) rfl rfl (Nat.le_of_ble_eq_true rfl) (ls' := [(2, .int (a2 + (1 : Int32))), (1, .int (s1 + s0)), (0, .ref 2)]) rfl ?_
  refine zm_goto 4 dX0_yesByAll_24 (by decide) ?_
  refine zm_sub [2, 1, 0] rfl ?_
  exact k
theorem gX0_yesByAll_27 {d : Nat} {Q : Value → zm_S → Prop} {w : zm_S} {a1 : Int32} (k : Q (.int a1) w) : zm_T zc_H d mX0_yesByAll Q 27 [(1, .int a1)] [] w := by
  refine zm_iload_n (x := a1) 0 dX0_yesByAll_27 rfl rfl ?_
  exact zm_ireturn dX0_yesByAll_28 rfl k
theorem gX0_pupilsWithSome_0 {d : Nat} {Q : Value → zm_S → Prop} {w : zm_S} (k : zm_T zc_H d mX0_pupilsWithSome Q 4 [(0, .ref 2), (1, .int (0 : Int32)), (2, .int (0 : Int32))] [] w) : zm_T zc_H d mX0_pupilsWithSome Q 0 [(0, .ref 2)] [] w := by
  refine zm_iconst dX0_pupilsWithSome_0 (v := (0 : Int32)) (by decide) ?_
  refine zm_istore_n dX0_pupilsWithSome_1 rfl (Nat.le_of_ble_eq_true rfl) (ls' := [(1, .int (0 : Int32)), (0, .ref 2)]) rfl ?_
  refine zm_iconst dX0_pupilsWithSome_2 (v := (0 : Int32)) (by decide) ?_
  refine zm_istore_n dX0_pupilsWithSome_3 rfl (Nat.le_of_ble_eq_true rfl) (ls' := [(2, .int (0 : Int32)), (1, .int (0 : Int32)), (0, .ref 2)]) rfl ?_
  refine zm_sub [2, 1, 0] rfl ?_
  exact k
theorem gX0_pupilsWithSome_4 {d : Nat} {Q : Value → zm_S → Prop} {w : zm_S} {a1 : Int32} {a2 : Int32} (kt : (12 : Int32) ≤ a2 → zm_T zc_H d mX0_pupilsWithSome Q 32 [(1, .int a1)] [] w) (kf : ¬ (12 : Int32) ≤ a2 → zm_T zc_H d mX0_pupilsWithSome Q 10 [(0, .ref 2), (1, .int a1), (2, .int a2)] [] w) : zm_T zc_H d mX0_pupilsWithSome Q 4 [(0, .ref 2), (1, .int a1), (2, .int a2)] [] w := by
  refine zm_iload_n (x := a2) 2 dX0_pupilsWithSome_4 rfl rfl ?_
  refine zm_bipush dX0_pupilsWithSome_5 (v := (12 : Int32)) (by decide) ?_
  refine zm_icmp_ge 32 dX0_pupilsWithSome_7 (by decide) (fun h => ?_) (fun h => ?_)
  · refine zm_sub [1] rfl ?_
    exact kt h
  · exact kf h
theorem gX0_pupilsWithSome_10 {d : Nat} {Q : Value → zm_S → Prop} {w : zm_S} {a1 : Int32} {a2 : Int32} {Q' : Value → zm_S → Prop} (hC : zm_C zc_H d mX0_given [.ref 2, .int a2] w Q') (k : ∀ (r : Int32) (u : zm_S), Q' (.int r) u → zm_T zc_H (d + 1) mX0_pupilsWithSome Q 16 [(0, .ref 2), (2, .int a2)] [.int r, .int a1] u) : zm_T zc_H (d + 1) mX0_pupilsWithSome Q 10 [(0, .ref 2), (1, .int a1), (2, .int a2)] [] w := by
  refine zm_iload_n (x := a1) 1 dX0_pupilsWithSome_10 rfl rfl ?_
  refine zm_aload_n (x := 2) 0 dX0_pupilsWithSome_11 rfl rfl ?_
  refine zm_iload_n (x := a2) 2 dX0_pupilsWithSome_12 rfl rfl ?_
  refine zm_callVi (as := [.int a2]) (rest := [.int a1]) dX0_pupilsWithSome_13 rfl mtX0_given lkX0_81 zc_H2 (C := RX0) rfl rfl rfl (Nat.le_of_ble_eq_true rfl) hC rfl (fun r u hq => ?_)
  refine zm_sub [0, 2] rfl ?_
  exact k r u hq
theorem gX0_pupilsWithSome_16 {d : Nat} {Q : Value → zm_S → Prop} {w : zm_S} {a2 : Int32} {s0 : Int32} {s1 : Int32} (kt : s0 ≤ 0 → zm_T zc_H d mX0_pupilsWithSome Q 23 [(0, .ref 2), (2, .int a2)] [.int s1] w) (kf : ¬ s0 ≤ 0 → zm_T zc_H d mX0_pupilsWithSome Q 19 [(0, .ref 2), (2, .int a2)] [.int s1] w) : zm_T zc_H d mX0_pupilsWithSome Q 16 [(0, .ref 2), (2, .int a2)] [.int s0, .int s1] w := by
  refine zm_if_le 23 dX0_pupilsWithSome_16 (by decide) (fun h => ?_) (fun h => ?_)
  · exact kt h
  · exact kf h
theorem gX0_pupilsWithSome_19 {d : Nat} {Q : Value → zm_S → Prop} {w : zm_S} {a2 : Int32} {s0 : Int32} (k : zm_T zc_H d mX0_pupilsWithSome Q 24 [(0, .ref 2), (2, .int a2)] [.int (1 : Int32), .int s0] w) : zm_T zc_H d mX0_pupilsWithSome Q 19 [(0, .ref 2), (2, .int a2)] [.int s0] w := by
  refine zm_iconst dX0_pupilsWithSome_19 (v := (1 : Int32)) (by decide) ?_
  refine zm_goto 24 dX0_pupilsWithSome_20 (by decide) ?_
  exact k
theorem gX0_pupilsWithSome_23 {d : Nat} {Q : Value → zm_S → Prop} {w : zm_S} {a2 : Int32} {s0 : Int32} (k : zm_T zc_H d mX0_pupilsWithSome Q 24 [(0, .ref 2), (2, .int a2)] [.int (0 : Int32), .int s0] w) : zm_T zc_H d mX0_pupilsWithSome Q 23 [(0, .ref 2), (2, .int a2)] [.int s0] w := by
  refine zm_iconst dX0_pupilsWithSome_23 (v := (0 : Int32)) (by decide) ?_
  exact k
theorem gX0_pupilsWithSome_24 {d : Nat} {Q : Value → zm_S → Prop} {w : zm_S} {a2 : Int32} {s0 : Int32} {s1 : Int32} (k : zm_T zc_H d mX0_pupilsWithSome Q 4 [(0, .ref 2), (1, .int (s1 + s0)), (2, .int (a2 + (1 : Int32)))] [] w) : zm_T zc_H d mX0_pupilsWithSome Q 24 [(0, .ref 2), (2, .int a2)] [.int s0, .int s1] w := by
  refine zm_iadd dX0_pupilsWithSome_24 ?_
  refine zm_istore_n dX0_pupilsWithSome_25 rfl (Nat.le_of_ble_eq_true rfl) (ls' := [(1, .int (s1 + s0)), (0, .ref 2), (2, .int a2)]) rfl ?_
  refine zm_iinc 2 dX0_pupilsWithSome_26 (x := a2) (v := (a2 + (1 : Int32))) rfl rfl (Nat.le_of_ble_eq_true rfl) (ls' := [(2, .int (a2 + (1 : Int32))), (1, .int (s1 + s0)), (0, .ref 2)]) rfl ?_
  refine zm_goto 4 dX0_pupilsWithSome_29 (by decide) ?_
  refine zm_sub [2, 1, 0] rfl ?_
  exact k
theorem gX0_pupilsWithSome_32 {d : Nat} {Q : Value → zm_S → Prop} {w : zm_S} {a1 : Int32} (k : Q (.int a1) w) : zm_T zc_H d mX0_pupilsWithSome Q 32 [(1, .int a1)] [] w := by
  refine zm_iload_n (x := a1) 0 dX0_pupilsWithSome_32 rfl rfl ?_
  exact zm_ireturn dX0_pupilsWithSome_33 rfl k
theorem gX0_largerShares_0 {d : Nat} {Q : Value → zm_S → Prop} {w : zm_S} (k : zm_T zc_H d mX0_largerShares Q 4 [(0, .ref 2), (1, .int (0 : Int32)), (2, .int (0 : Int32))] [] w) : zm_T zc_H d mX0_largerShares Q 0 [(0, .ref 2)] [] w := by
  refine zm_iconst dX0_largerShares_0 (v := (0 : Int32)) (by decide) ?_
  refine zm_istore_n dX0_largerShares_1 rfl (Nat.le_of_ble_eq_true rfl) (ls' := [(1, .int (0 : Int32)), (0, .ref 2)]) rfl ?_
  refine zm_iconst dX0_largerShares_2 (v := (0 : Int32)) (by decide) ?_
  refine zm_istore_n dX0_largerShares_3 rfl (Nat.le_of_ble_eq_true rfl) (ls' := [(2, .int (0 : Int32)), (1, .int (0 : Int32)), (0, .ref 2)]) rfl ?_
  refine zm_sub [2, 1, 0] rfl ?_
  exact k
theorem gX0_largerShares_4 {d : Nat} {Q : Value → zm_S → Prop} {w : zm_S} {a1 : Int32} {a2 : Int32} (kt : (w.1 2 9) ≤ a2 → zm_T zc_H d mX0_largerShares Q 42 [(1, .int a1)] [] w) (kf : ¬ (w.1 2 9) ≤ a2 → zm_T zc_H d mX0_largerShares Q 12 [(0, .ref 2), (1, .int a1), (2, .int a2)] [] w) : zm_T zc_H d mX0_largerShares Q 4 [(0, .ref 2), (1, .int a1), (2, .int a2)] [] w := by
  refine zm_iload_n (x := a2) 2 dX0_largerShares_4 rfl rfl ?_
  refine zm_aload_n (x := 2) 0 dX0_largerShares_5 rfl rfl ?_
  refine zm_getf (v := .int (w.1 2 9)) (j := 9) dX0_largerShares_6 clX0 flX0_38 (Nat.le_of_ble_eq_true rfl) zc_H2 rfl rfl ?_
  refine zm_icmp_ge 42 dX0_largerShares_9 (by decide) (fun h => ?_) (fun h => ?_)
  · refine zm_sub [1] rfl ?_
    exact kt h
  · exact kf h
theorem gX0_largerShares_12 {d : Nat} {Q : Value → zm_S → Prop} {w : zm_S} {a1 : Int32} {a2 : Int32} {Q' : Value → zm_S → Prop} (hi18 : vp_in a2 7) (hC : zm_C zc_H d mJ6_bitCount_0f7a4 [.int (w.1 9 (a2).toNatClampNeg)] w Q') (k : ∀ (r : Int32) (u : zm_S), Q' (.int r) u → zm_T zc_H (d + 1) mX0_largerShares Q 22 [(0, .ref 2), (2, .int a2)] [.int r, .int a1] u) : zm_T zc_H (d + 1) mX0_largerShares Q 12 [(0, .ref 2), (1, .int a1), (2, .int a2)] [] w := by
  refine zm_iload_n (x := a1) 1 dX0_largerShares_12 rfl rfl ?_
  refine zm_aload_n (x := 2) 0 dX0_largerShares_13 rfl rfl ?_
  refine zm_getf (v := .ref 9) (j := 6) dX0_largerShares_14 clX0 flX0_32 (Nat.le_of_ble_eq_true rfl) zc_H2 rfl rfl ?_
  refine zm_iload_n (x := a2) 2 dX0_largerShares_17 rfl rfl ?_
  refine zm_iald dX0_largerShares_18 zc_H9 hi18 ?_
  refine zm_callSi (as := [.int (w.1 9 (a2).toNatClampNeg)]) (rest := [.int a1]) dX0_largerShares_19 rfl mtJ6_bitCount_0f7a4 lkX0_76 rfl (Nat.le_of_ble_eq_true rfl) hC rfl (fun r u hq => ?_)
  refine zm_sub [0, 2] rfl ?_
  exact k r u hq
theorem gX0_largerShares_22 {d : Nat} {Q : Value → zm_S → Prop} {w : zm_S} {a2 : Int32} {s0 : Int32} {s1 : Int32} {Q' : Value → zm_S → Prop} (hi27 : vp_in a2 7) (hC : zm_C zc_H d mJ6_bitCount_0f7a4 [.int (w.1 10 (a2).toNatClampNeg)] w Q') (k : ∀ (r : Int32) (u : zm_S), Q' (.int r) u → zm_T zc_H (d + 1) mX0_largerShares Q 31 [(0, .ref 2), (2, .int a2)] [.int r, .int s0, .int s1] u) : zm_T zc_H (d + 1) mX0_largerShares Q 22 [(0, .ref 2), (2, .int a2)] [.int s0, .int s1] w := by
  refine zm_aload_n (x := 2) 0 dX0_largerShares_22 rfl rfl ?_
  refine zm_getf (v := .ref 10) (j := 7) dX0_largerShares_23 clX0 flX0_35 (Nat.le_of_ble_eq_true rfl) zc_H2 rfl rfl ?_
  refine zm_iload_n (x := a2) 1 dX0_largerShares_26 rfl rfl ?_
  refine zm_iald dX0_largerShares_27 zc_H10 hi27 ?_
  refine zm_callSi (as := [.int (w.1 10 (a2).toNatClampNeg)]) (rest := [.int s0, .int s1]) dX0_largerShares_28 rfl mtJ6_bitCount_0f7a4 lkX0_76 rfl (Nat.le_of_ble_eq_true rfl) hC rfl (fun r u hq => ?_)
  exact k r u hq
theorem gX0_largerShares_31 {d : Nat} {Q : Value → zm_S → Prop} {w : zm_S} {a2 : Int32} {s0 : Int32} {s1 : Int32} {s2 : Int32} (k : zm_T zc_H d mX0_largerShares Q 4 [(0, .ref 2), (1, .int (s2 + (if s1 < s0 then s0 else s1))), (2, .int (a2 + (1 : Int32)))] [] w) : zm_T zc_H d mX0_largerShares Q 31 [(0, .ref 2), (2, .int a2)] [.int s0, .int s1, .int s2] w := by
  refine zm_mmax dX0_largerShares_31 lkX0_84 zm_mmmax (Nat.le_of_ble_eq_true rfl) ?_
  refine zm_iadd dX0_largerShares_34 ?_
  refine zm_istore_n dX0_largerShares_35 rfl (Nat.le_of_ble_eq_true rfl) (ls' := [(1, .int (s2 + (if s1 < s0 then s0 else s1))), (0, .ref 2), (2, .int a2)]) rfl ?_
  refine zm_iinc 2 dX0_largerShares_36 (x := a2) (v := (a2 + (1 : Int32))) rfl rfl (Nat.le_of_ble_eq_true rfl) (ls' := [(2, .int (a2 + (1 : Int32))), (1, .int (s2 + (if s1 < s0 then s0 else s1))), (0, .ref 2)]) rfl ?_
  refine zm_goto 4 dX0_largerShares_39 (by decide) ?_
  refine zm_sub [2, 1, 0] rfl ?_
  exact k
theorem gX0_largerShares_42 {d : Nat} {Q : Value → zm_S → Prop} {w : zm_S} {a1 : Int32} (k : Q (.int a1) w) : zm_T zc_H d mX0_largerShares Q 42 [(1, .int a1)] [] w := by
  refine zm_iload_n (x := a1) 0 dX0_largerShares_42 rfl rfl ?_
  exact zm_ireturn dX0_largerShares_43 rfl k
theorem gX0_foundFor_0 {d : Nat} {Q : Value → zm_S → Prop} {w : zm_S} {a1 : Int32} {a2 : Int32} (k : zm_T zc_H d mX0_foundFor Q 5 [(0, .ref 2), (1, .int a1), (2, .int a2), (3, .int (0 : Int32)), (4, .int (0 : Int32))] [] w) : zm_T zc_H d mX0_foundFor Q 0 [(0, .ref 2), (1, .int a1), (2, .int a2)] [] w := by
  refine zm_iconst dX0_foundFor_0 (v := (0 : Int32)) (by decide) ?_
  refine zm_istore_n dX0_foundFor_1 rfl (Nat.le_of_ble_eq_true rfl) (ls' := [(3, .int (0 : Int32)), (0, .ref 2), (1, .int a1), (2, .int a2)]) rfl ?_
  refine zm_iconst dX0_foundFor_2 (v := (0 : Int32)) (by decide) ?_
  refine zm_istore dX0_foundFor_3 (Nat.le_of_ble_eq_true rfl) (ls' := [(4, .int (0 : Int32)), (3, .int (0 : Int32)), (0, .ref 2), (1, .int a1), (2, .int a2)]) rfl ?_
  refine zm_sub [2, 3, 4, 1, 0] rfl ?_
  exact k
theorem gX0_foundFor_5 {d : Nat} {Q : Value → zm_S → Prop} {w : zm_S} {a1 : Int32} {a2 : Int32} {a3 : Int32} {a4 : Int32} (kt : (w.1 2 9) ≤ a4 → zm_T zc_H d mX0_foundFor Q 84 [(3, .int a3)] [] w) (kf : ¬ (w.1 2 9) ≤ a4 → zm_T zc_H d mX0_foundFor Q 14 [(0, .ref 2), (1, .int a1), (2, .int a2), (3, .int a3), (4, .int a4)] [] w) : zm_T zc_H d mX0_foundFor Q 5 [(0, .ref 2), (1, .int a1), (2, .int a2), (3, .int a3), (4, .int a4)] [] w := by
  refine zm_iload (x := a4) 4 dX0_foundFor_5 rfl ?_
  refine zm_aload_n (x := 2) 0 dX0_foundFor_7 rfl rfl ?_
  refine zm_getf (v := .int (w.1 2 9)) (j := 9) dX0_foundFor_8 clX0 flX0_38 (Nat.le_of_ble_eq_true rfl) zc_H2 rfl rfl ?_
  refine zm_icmp_ge 84 dX0_foundFor_11 (by decide) (fun h => ?_) (fun h => ?_)
  · refine zm_sub [3] rfl ?_
    exact kt h
  · exact kf h
theorem gX0_foundFor_14 {d : Nat} {Q : Value → zm_S → Prop} {w : zm_S} {a1 : Int32} {a2 : Int32} {a3 : Int32} {a4 : Int32} {Q' : Value → zm_S → Prop} (hi19 : vp_in a1 7) (hi26 : vp_in a4 7) (hC : zm_C zc_H d mJ6_bitCount_0f7a4 [.int ((w.1 9 (a1).toNatClampNeg) &&& (w.1 10 (a4).toNatClampNeg))] w Q') (k : ∀ (r : Int32) (u : zm_S), Q' (.int r) u → zm_T zc_H (d + 1) mX0_foundFor Q 31 [(0, .ref 2), (1, .int a1), (2, .int a2), (3, .int a3), (4, .int a4)] [.int r] u) : zm_T zc_H (d + 1) mX0_foundFor Q 14 [(0, .ref 2), (1, .int a1), (2, .int a2), (3, .int a3), (4, .int a4)] [] w := by
  refine zm_aload_n (x := 2) 0 dX0_foundFor_14 rfl rfl ?_
  refine zm_getf (v := .ref 9) (j := 6) dX0_foundFor_15 clX0 flX0_32 (Nat.le_of_ble_eq_true rfl) zc_H2 rfl rfl ?_
  refine zm_iload_n (x := a1) 1 dX0_foundFor_18 rfl rfl ?_
  refine zm_iald dX0_foundFor_19 zc_H9 hi19 ?_
  refine zm_aload_n (x := 2) 0 dX0_foundFor_20 rfl rfl ?_
  refine zm_getf (v := .ref 10) (j := 7) dX0_foundFor_21 clX0 flX0_35 (Nat.le_of_ble_eq_true rfl) zc_H2 rfl rfl ?_
  refine zm_iload (x := a4) 4 dX0_foundFor_24 rfl ?_
  refine zm_iald dX0_foundFor_26 zc_H10 hi26 ?_
  refine zm_iand dX0_foundFor_27 ?_
  refine zm_callSi (as := [.int ((w.1 9 (a1).toNatClampNeg) &&& (w.1 10 (a4).toNatClampNeg))]) (rest := []) dX0_foundFor_28 rfl mtJ6_bitCount_0f7a4 lkX0_76 rfl (Nat.le_of_ble_eq_true rfl) hC rfl (fun r u hq => ?_)
  exact k r u hq
theorem gX0_foundFor_31 {d : Nat} {Q : Value → zm_S → Prop} {w : zm_S} {a1 : Int32} {a2 : Int32} {a3 : Int32} {a4 : Int32} {s0 : Int32} {Q' : Value → zm_S → Prop} (hi38 : vp_in a1 7) (hi45 : vp_in a4 7) (hC : zm_C zc_H d mJ6_bitCount_0f7a4 [.int ((w.1 10 (a1).toNatClampNeg) &&& (w.1 9 (a4).toNatClampNeg))] w Q') (k : ∀ (r : Int32) (u : zm_S), Q' (.int r) u → zm_T zc_H (d + 1) mX0_foundFor Q 50 [(0, .ref 2), (1, .int a1), (2, .int a2), (3, .int a3), (4, .int a4), (5, .int s0)] [.int r] u) : zm_T zc_H (d + 1) mX0_foundFor Q 31 [(0, .ref 2), (1, .int a1), (2, .int a2), (3, .int a3), (4, .int a4)] [.int s0] w := by
  refine zm_istore dX0_foundFor_31 (Nat.le_of_ble_eq_true rfl) (ls' := [(5, .int s0), (0, .ref 2), (1, .int a1), (2, .int a2), (3, .int a3), (4, .int a4)]) rfl ?_
  refine zm_aload_n (x := 2) 1 dX0_foundFor_33 rfl rfl ?_
  refine zm_getf (v := .ref 10) (j := 7) dX0_foundFor_34 clX0 flX0_35 (Nat.le_of_ble_eq_true rfl) zc_H2 rfl rfl ?_
  refine zm_iload_n (x := a1) 2 dX0_foundFor_37 rfl rfl ?_
  refine zm_iald dX0_foundFor_38 zc_H10 hi38 ?_
  refine zm_aload_n (x := 2) 1 dX0_foundFor_39 rfl rfl ?_
  refine zm_getf (v := .ref 9) (j := 6) dX0_foundFor_40 clX0 flX0_32 (Nat.le_of_ble_eq_true rfl) zc_H2 rfl rfl ?_
  refine zm_iload (x := a4) 5 dX0_foundFor_43 rfl ?_
  refine zm_iald dX0_foundFor_45 zc_H9 hi45 ?_
  refine zm_iand dX0_foundFor_46 ?_
  refine zm_callSi (as := [.int ((w.1 10 (a1).toNatClampNeg) &&& (w.1 9 (a4).toNatClampNeg))]) (rest := []) dX0_foundFor_47 rfl mtJ6_bitCount_0f7a4 lkX0_76 rfl (Nat.le_of_ble_eq_true rfl) hC rfl (fun r u hq => ?_)
  refine zm_sub [1, 2, 3, 4, 5, 0] rfl ?_
  exact k r u hq
theorem gX0_foundFor_50 {d : Nat} {Q : Value → zm_S → Prop} {w : zm_S} {a1 : Int32} {a2 : Int32} {a3 : Int32} {a4 : Int32} {a5 : Int32} {s0 : Int32} (kt : a4 = a1 → zm_T zc_H d mX0_foundFor Q 78 [(0, .ref 2), (1, .int a1), (2, .int a2), (3, .int a3), (4, .int a4)] [] w) (kf : ¬ a4 = a1 → zm_T zc_H d mX0_foundFor Q 58 [(0, .ref 2), (1, .int a1), (2, .int a2), (3, .int a3), (4, .int a4), (5, .int a5), (6, .int s0)] [] w) : zm_T zc_H d mX0_foundFor Q 50 [(0, .ref 2), (1, .int a1), (2, .int a2), (3, .int a3), (4, .int a4), (5, .int a5)] [.int s0] w := by
  refine zm_istore dX0_foundFor_50 (Nat.le_of_ble_eq_true rfl) (ls' := [(6, .int s0), (0, .ref 2), (1, .int a1), (2, .int a2), (3, .int a3), (4, .int a4), (5, .int a5)]) rfl ?_
  refine zm_iload (x := a4) 5 dX0_foundFor_52 rfl ?_
  refine zm_iload_n (x := a1) 2 dX0_foundFor_54 rfl rfl ?_
  refine zm_icmp_eq 78 dX0_foundFor_55 (by decide) (fun h => ?_) (fun h => ?_)
  · refine zm_sub [1, 2, 3, 4, 5] rfl ?_
    exact kt h
  · refine zm_sub [1, 2, 3, 4, 5, 6, 0] rfl ?_
    exact kf h
theorem gX0_foundFor_58 {d : Nat} {Q : Value → zm_S → Prop} {w : zm_S} {a1 : Int32} {a2 : Int32} {a3 : Int32} {a4 : Int32} {a5 : Int32} {a6 : Int32} (kt : a2 < a5 → zm_T zc_H d mX0_foundFor Q 78 [(0, .ref 2), (1, .int a1), (2, .int a2), (3, .int a3), (4, .int a4)] [] w) (kf : ¬ a2 < a5 → zm_T zc_H d mX0_foundFor Q 64 [(0, .ref 2), (1, .int a1), (2, .int a2), (3, .int a3), (4, .int a4), (5, .int a5), (6, .int a6)] [] w) : zm_T zc_H d mX0_foundFor Q 58 [(0, .ref 2), (1, .int a1), (2, .int a2), (3, .int a3), (4, .int a4), (5, .int a5), (6, .int a6)] [] w := by
  refine zm_iload (x := a5) 5 dX0_foundFor_58 rfl ?_
  refine zm_iload_n (x := a2) 2 dX0_foundFor_60 rfl rfl ?_
  refine zm_icmp_gt 78 dX0_foundFor_61 (by decide) (fun h => ?_) (fun h => ?_)
  · refine zm_sub [0, 1, 2, 3, 4] rfl ?_
    exact kt h
  · exact kf h
theorem gX0_foundFor_64 {d : Nat} {Q : Value → zm_S → Prop} {w : zm_S} {a1 : Int32} {a2 : Int32} {a3 : Int32} {a4 : Int32} {a5 : Int32} {a6 : Int32} (kt : a6 ≤ a5 → zm_T zc_H d mX0_foundFor Q 78 [(0, .ref 2), (1, .int a1), (2, .int a2), (3, .int a3), (4, .int a4)] [] w) (kf : ¬ a6 ≤ a5 → zm_T zc_H d mX0_foundFor Q 71 [(0, .ref 2), (1, .int a1), (2, .int a2), (3, .int a3), (4, .int a4)] [] w) : zm_T zc_H d mX0_foundFor Q 64 [(0, .ref 2), (1, .int a1), (2, .int a2), (3, .int a3), (4, .int a4), (5, .int a5), (6, .int a6)] [] w := by
  refine zm_iload (x := a5) 5 dX0_foundFor_64 rfl ?_
  refine zm_iload (x := a6) 6 dX0_foundFor_66 rfl ?_
  refine zm_icmp_ge 78 dX0_foundFor_68 (by decide) (fun h => ?_) (fun h => ?_)
  · refine zm_sub [0, 1, 2, 3, 4] rfl ?_
    exact kt h
  · refine zm_sub [0, 1, 2, 3, 4] rfl ?_
    exact kf h
theorem gX0_foundFor_71 {d : Nat} {Q : Value → zm_S → Prop} {w : zm_S} {a1 : Int32} {a2 : Int32} {a3 : Int32} {a4 : Int32} (k : zm_T zc_H d mX0_foundFor Q 78 [(0, .ref 2), (1, .int a1), (2, .int a2), (3, .int (a3 ||| ((1 : Int32) <<< (a4 &&& 31)))), (4, .int a4)] [] w) : zm_T zc_H d mX0_foundFor Q 71 [(0, .ref 2), (1, .int a1), (2, .int a2), (3, .int a3), (4, .int a4)] [] w := by
  refine zm_iload_n (x := a3) 3 dX0_foundFor_71 rfl rfl ?_
  refine zm_iconst dX0_foundFor_72 (v := (1 : Int32)) (by decide) ?_
  refine zm_iload (x := a4) 4 dX0_foundFor_73 rfl ?_
  refine zm_ishl dX0_foundFor_75 ?_
  refine zm_ior dX0_foundFor_76 ?_
  refine zm_istore_n dX0_foundFor_77 rfl (Nat.le_of_ble_eq_true rfl) (ls' := [(3, .int (a3 ||| ((1 : Int32) <<< (a4 &&& 31)))), (0, .ref 2), (1, .int a1), (2, .int a2), (4, .int a4)]) rfl ?_
  refine zm_sub [1, 2, 3, 0, 4] rfl ?_
  exact k
theorem gX0_foundFor_78 {d : Nat} {Q : Value → zm_S → Prop} {w : zm_S} {a1 : Int32} {a2 : Int32} {a3 : Int32} {a4 : Int32} (k : zm_T zc_H d mX0_foundFor Q 5 [(0, .ref 2), (1, .int a1), (2, .int a2), (3, .int a3), (4, .int (a4 + (1 : Int32)))] [] w) : zm_T zc_H d mX0_foundFor Q 78 [(0, .ref 2), (1, .int a1), (2, .int a2), (3, .int a3), (4, .int a4)] [] w := by
  refine zm_iinc 4 dX0_foundFor_78 (x := a4) (v := (a4 + (1 : Int32))) rfl rfl (Nat.le_of_ble_eq_true rfl) (ls' := [(4, .int (a4 + (1 : Int32))), (0, .ref 2), (1, .int a1), (2, .int a2), (3, .int a3)]) rfl ?_
  refine zm_goto 5 dX0_foundFor_81 (by decide) ?_
  refine zm_sub [1, 2, 3, 4, 0] rfl ?_
  exact k
theorem gX0_foundFor_84 {d : Nat} {Q : Value → zm_S → Prop} {w : zm_S} {a3 : Int32} (k : Q (.int a3) w) : zm_T zc_H d mX0_foundFor Q 84 [(3, .int a3)] [] w := by
  refine zm_iload_n (x := a3) 0 dX0_foundFor_84 rfl rfl ?_
  exact zm_ireturn dX0_foundFor_85 rfl k
theorem gX0_errorsWith_0 {d : Nat} {Q : Value → zm_S → Prop} {w : zm_S} {a1 : Int32} {a2 : Int32} {Q' : Value → zm_S → Prop} (hC : zm_C zc_H d mX0_yesOf [.ref 2, .int a1] w Q') (k : ∀ (r : Int32) (u : zm_S), Q' (.int r) u → zm_T zc_H (d + 1) mX0_errorsWith Q 5 [(0, .ref 2), (1, .int a1), (2, .int a2)] [.int r] u) : zm_T zc_H (d + 1) mX0_errorsWith Q 0 [(0, .ref 2), (1, .int a1), (2, .int a2)] [] w := by
  refine zm_aload_n (x := 2) 0 dX0_errorsWith_0 rfl rfl ?_
  refine zm_iload_n (x := a1) 1 dX0_errorsWith_1 rfl rfl ?_
  refine zm_callVi (as := [.int a1]) (rest := []) dX0_errorsWith_2 rfl mtX0_yesOf lkX0_69 zc_H2 (C := RX0) rfl rfl rfl (Nat.le_of_ble_eq_true rfl) hC rfl (fun r u hq => ?_)
  exact k r u hq
theorem gX0_errorsWith_5 {d : Nat} {Q : Value → zm_S → Prop} {w : zm_S} {a1 : Int32} {a2 : Int32} {s0 : Int32} {Q' : Value → zm_S → Prop} (hC : zm_C zc_H d mJ6_bitCount_0f7a4 [.int (s0 &&& (a2 ^^^ (-1 : Int32)))] w Q') (k : ∀ (r : Int32) (u : zm_S), Q' (.int r) u → zm_T zc_H (d + 1) mX0_errorsWith Q 12 [(0, .ref 2), (1, .int a1), (2, .int a2)] [.int r] u) : zm_T zc_H (d + 1) mX0_errorsWith Q 5 [(0, .ref 2), (1, .int a1), (2, .int a2)] [.int s0] w := by
  refine zm_iload_n (x := a2) 2 dX0_errorsWith_5 rfl rfl ?_
  refine zm_iconst dX0_errorsWith_6 (v := (-1 : Int32)) (by decide) ?_
  refine zm_ixor dX0_errorsWith_7 ?_
  refine zm_iand dX0_errorsWith_8 ?_
  refine zm_callSi (as := [.int (s0 &&& (a2 ^^^ (-1 : Int32)))]) (rest := []) dX0_errorsWith_9 rfl mtJ6_bitCount_0f7a4 lkX0_76 rfl (Nat.le_of_ble_eq_true rfl) hC rfl (fun r u hq => ?_)
  exact k r u hq
theorem gX0_errorsWith_12 {d : Nat} {Q : Value → zm_S → Prop} {w : zm_S} {a1 : Int32} {a2 : Int32} {s0 : Int32} {Q' : Value → zm_S → Prop} (hC : zm_C zc_H d mX0_noOf [.ref 2, .int a1] w Q') (k : ∀ (r : Int32) (u : zm_S), Q' (.int r) u → zm_T zc_H (d + 1) mX0_errorsWith Q 17 [(2, .int a2)] [.int r, .int s0] u) : zm_T zc_H (d + 1) mX0_errorsWith Q 12 [(0, .ref 2), (1, .int a1), (2, .int a2)] [.int s0] w := by
  refine zm_aload_n (x := 2) 0 dX0_errorsWith_12 rfl rfl ?_
  refine zm_iload_n (x := a1) 1 dX0_errorsWith_13 rfl rfl ?_
  refine zm_callVi (as := [.int a1]) (rest := [.int s0]) dX0_errorsWith_14 rfl mtX0_noOf lkX0_73 zc_H2 (C := RX0) rfl rfl rfl (Nat.le_of_ble_eq_true rfl) hC rfl (fun r u hq => ?_)
  refine zm_sub [2] rfl ?_
  exact k r u hq
theorem gX0_errorsWith_17 {d : Nat} {Q : Value → zm_S → Prop} {w : zm_S} {a2 : Int32} {s0 : Int32} {s1 : Int32} {Q' : Value → zm_S → Prop} (hC : zm_C zc_H d mJ6_bitCount_0f7a4 [.int (s0 &&& a2)] w Q') (k : ∀ (r : Int32) (u : zm_S), Q' (.int r) u → zm_T zc_H (d + 1) mX0_errorsWith Q 22 [] [.int r, .int s1] u) : zm_T zc_H (d + 1) mX0_errorsWith Q 17 [(2, .int a2)] [.int s0, .int s1] w := by
  refine zm_iload_n (x := a2) 0 dX0_errorsWith_17 rfl rfl ?_
  refine zm_iand dX0_errorsWith_18 ?_
  refine zm_callSi (as := [.int (s0 &&& a2)]) (rest := [.int s1]) dX0_errorsWith_19 rfl mtJ6_bitCount_0f7a4 lkX0_76 rfl (Nat.le_of_ble_eq_true rfl) hC rfl (fun r u hq => ?_)
  refine zm_sub [] rfl ?_
  exact k r u hq
theorem gX0_errorsWith_22 {d : Nat} {Q : Value → zm_S → Prop} {w : zm_S} {s0 : Int32} {s1 : Int32} (k : Q (.int (s1 + s0)) w) : zm_T zc_H d mX0_errorsWith Q 22 [] [.int s0, .int s1] w := by
  refine zm_iadd dX0_errorsWith_22 ?_
  exact zm_ireturn dX0_errorsWith_23 rfl k
theorem gX0_offIn_0 {d : Nat} {Q : Value → zm_S → Prop} {w : zm_S} {a1 : Int32} {oa2 : Nat} {noa2 : Nat} {Q' : Value → zm_S → Prop} (hoa2 : zc_H[oa2]? = some (.inl (.int, noa2, []))) (hC : zm_C zc_H d mX0_standing [.ref 2, .int a1, .ref oa2] w Q') (k : ∀ (r : Int32) (u : zm_S), Q' (.int r) u → zm_T zc_H (d + 1) mX0_offIn Q 6 [] [.int r] u) : zm_T zc_H (d + 1) mX0_offIn Q 0 [(0, .ref 2), (1, .int a1), (2, .ref oa2)] [] w := by
  refine zm_aload_n (x := 2) 0 dX0_offIn_0 rfl rfl ?_
  refine zm_iload_n (x := a1) 1 dX0_offIn_1 rfl rfl ?_
  refine zm_aload_n (x := oa2) 2 dX0_offIn_2 rfl rfl ?_
  refine zm_callVi (as := [.int a1, .ref oa2]) (rest := []) dX0_offIn_3 rfl mtX0_standing lkX0_90 zc_H2 (C := RX0) rfl rfl rfl (Nat.le_of_ble_eq_true rfl) hC rfl (fun r u hq => ?_)
  refine zm_sub [] rfl ?_
  exact k r u hq
theorem gX0_offIn_6 {d : Nat} {Q : Value → zm_S → Prop} {w : zm_S} {s0 : Int32} (k : Q (.int (s0 >>> ((3 : Int32) &&& 31))) w) : zm_T zc_H d mX0_offIn Q 6 [] [.int s0] w := by
  refine zm_iconst dX0_offIn_6 (v := (3 : Int32)) (by decide) ?_
  refine zm_ishr dX0_offIn_7 ?_
  exact zm_ireturn dX0_offIn_8 rfl k
theorem gX0_stepIn_0 {d : Nat} {Q : Value → zm_S → Prop} {w : zm_S} {a1 : Int32} {oa2 : Nat} {noa2 : Nat} {Q' : Value → zm_S → Prop} (hoa2 : zc_H[oa2]? = some (.inl (.int, noa2, []))) (hC : zm_C zc_H d mX0_standing [.ref 2, .int a1, .ref oa2] w Q') (k : ∀ (r : Int32) (u : zm_S), Q' (.int r) u → zm_T zc_H (d + 1) mX0_stepIn Q 6 [] [.int r] u) : zm_T zc_H (d + 1) mX0_stepIn Q 0 [(0, .ref 2), (1, .int a1), (2, .ref oa2)] [] w := by
  refine zm_aload_n (x := 2) 0 dX0_stepIn_0 rfl rfl ?_
  refine zm_iload_n (x := a1) 1 dX0_stepIn_1 rfl rfl ?_
  refine zm_aload_n (x := oa2) 2 dX0_stepIn_2 rfl rfl ?_
  refine zm_callVi (as := [.int a1, .ref oa2]) (rest := []) dX0_stepIn_3 rfl mtX0_standing lkX0_90 zc_H2 (C := RX0) rfl rfl rfl (Nat.le_of_ble_eq_true rfl) hC rfl (fun r u hq => ?_)
  refine zm_sub [] rfl ?_
  exact k r u hq
theorem gX0_stepIn_6 {d : Nat} {Q : Value → zm_S → Prop} {w : zm_S} {s0 : Int32} (k : Q (.int (s0 &&& (7 : Int32))) w) : zm_T zc_H d mX0_stepIn Q 6 [] [.int s0] w := by
  refine zm_bipush dX0_stepIn_6 (v := (7 : Int32)) (by decide) ?_
  refine zm_iand dX0_stepIn_8 ?_
  exact zm_ireturn dX0_stepIn_9 rfl k
theorem gX0_standing_0 {d : Nat} {Q : Value → zm_S → Prop} {w : zm_S} {a1 : Int32} {oa2 : Nat} {noa2 : Nat} {Q' : Value → zm_S → Prop} (hoa2 : zc_H[oa2]? = some (.inl (.int, noa2, []))) (hC : zm_C zc_H d mX0_errorsWith [.ref 2, .int a1, .int (0 : Int32)] w Q') (k : ∀ (r : Int32) (u : zm_S), Q' (.int r) u → zm_T zc_H (d + 1) mX0_standing Q 8 [(0, .ref 2), (1, .int a1), (2, .ref oa2), (3, .int (0 : Int32))] [.int r] u) : zm_T zc_H (d + 1) mX0_standing Q 0 [(0, .ref 2), (1, .int a1), (2, .ref oa2)] [] w := by
  refine zm_iconst dX0_standing_0 (v := (0 : Int32)) (by decide) ?_
  refine zm_istore_n dX0_standing_1 rfl (Nat.le_of_ble_eq_true rfl) (ls' := [(3, .int (0 : Int32)), (0, .ref 2), (1, .int a1), (2, .ref oa2)]) rfl ?_
  refine zm_aload_n (x := 2) 1 dX0_standing_2 rfl rfl ?_
  refine zm_iload_n (x := a1) 2 dX0_standing_3 rfl rfl ?_
  refine zm_iload_n (x := (0 : Int32)) 0 dX0_standing_4 rfl rfl ?_
  refine zm_callVi (as := [.int a1, .int (0 : Int32)]) (rest := []) dX0_standing_5 rfl mtX0_errorsWith lkX0_94 zc_H2 (C := RX0) rfl rfl rfl (Nat.le_of_ble_eq_true rfl) hC rfl (fun r u hq => ?_)
  refine zm_sub [1, 2, 3, 0] rfl ?_
  exact k r u hq
theorem gX0_standing_8 {d : Nat} {Q : Value → zm_S → Prop} {w : zm_S} {a1 : Int32} {oa2 : Nat} {noa2 : Nat} {a3 : Int32} {s0 : Int32} (hoa2 : zc_H[oa2]? = some (.inl (.int, noa2, []))) (k : zm_T zc_H d mX0_standing Q 15 [(0, .ref 2), (1, .int a1), (2, .ref oa2), (3, .int a3), (4, .int (s0 <<< ((3 : Int32) &&& 31))), (5, .int (0 : Int32))] [] w) : zm_T zc_H d mX0_standing Q 8 [(0, .ref 2), (1, .int a1), (2, .ref oa2), (3, .int a3)] [.int s0] w := by
  refine zm_iconst dX0_standing_8 (v := (3 : Int32)) (by decide) ?_
  refine zm_ishl dX0_standing_9 ?_
  refine zm_istore dX0_standing_10 (Nat.le_of_ble_eq_true rfl) (ls' := [(4, .int (s0 <<< ((3 : Int32) &&& 31))), (0, .ref 2), (1, .int a1), (2, .ref oa2), (3, .int a3)]) rfl ?_
  refine zm_iconst dX0_standing_12 (v := (0 : Int32)) (by decide) ?_
  refine zm_istore dX0_standing_13 (Nat.le_of_ble_eq_true rfl) (ls' := [(5, .int (0 : Int32)), (4, .int (s0 <<< ((3 : Int32) &&& 31))), (0, .ref 2), (1, .int a1), (2, .ref oa2), (3, .int a3)]) rfl ?_
  refine zm_sub [2, 3, 4, 5, 1, 0] rfl ?_
  exact k
theorem gX0_standing_15 {d : Nat} {Q : Value → zm_S → Prop} {w : zm_S} {a1 : Int32} {oa2 : Nat} {noa2 : Nat} {a3 : Int32} {a4 : Int32} {a5 : Int32} (hoa2 : zc_H[oa2]? = some (.inl (.int, noa2, []))) (kt : (w.1 2 9) ≤ a5 → zm_T zc_H d mX0_standing Q 66 [(4, .int a4)] [] w) (kf : ¬ (w.1 2 9) ≤ a5 → zm_T zc_H d mX0_standing Q 24 [(0, .ref 2), (1, .int a1), (2, .ref oa2), (3, .int a3), (4, .int a4), (5, .int a5)] [] w) : zm_T zc_H d mX0_standing Q 15 [(0, .ref 2), (1, .int a1), (2, .ref oa2), (3, .int a3), (4, .int a4), (5, .int a5)] [] w := by
  refine zm_iload (x := a5) 5 dX0_standing_15 rfl ?_
  refine zm_aload_n (x := 2) 0 dX0_standing_17 rfl rfl ?_
  refine zm_getf (v := .int (w.1 2 9)) (j := 9) dX0_standing_18 clX0 flX0_38 (Nat.le_of_ble_eq_true rfl) zc_H2 rfl rfl ?_
  refine zm_icmp_ge 66 dX0_standing_21 (by decide) (fun h => ?_) (fun h => ?_)
  · refine zm_sub [4] rfl ?_
    exact kt h
  · exact kf h
theorem gX0_standing_24 {d : Nat} {Q : Value → zm_S → Prop} {w : zm_S} {a1 : Int32} {oa2 : Nat} {noa2 : Nat} {a3 : Int32} {a4 : Int32} {a5 : Int32} (hoa2 : zc_H[oa2]? = some (.inl (.int, noa2, []))) (kt : (Int32.ofNat noa2) ≤ a5 → zm_T zc_H d mX0_standing Q 66 [(4, .int a4)] [] w) (kf : ¬ (Int32.ofNat noa2) ≤ a5 → zm_T zc_H d mX0_standing Q 31 [(0, .ref 2), (1, .int a1), (2, .ref oa2), (3, .int a3), (4, .int a4), (5, .int a5)] [] w) : zm_T zc_H d mX0_standing Q 24 [(0, .ref 2), (1, .int a1), (2, .ref oa2), (3, .int a3), (4, .int a4), (5, .int a5)] [] w := by
  refine zm_iload (x := a5) 5 dX0_standing_24 rfl ?_
  refine zm_aload_n (x := oa2) 2 dX0_standing_26 rfl rfl ?_
  refine zm_alen dX0_standing_27 hoa2 rfl ?_
  refine zm_icmp_ge 66 dX0_standing_28 (by decide) (fun h => ?_) (fun h => ?_)
  · refine zm_sub [4] rfl ?_
    exact kt h
  · exact kf h
theorem gX0_standing_31 {d : Nat} {Q : Value → zm_S → Prop} {w : zm_S} {a1 : Int32} {oa2 : Nat} {noa2 : Nat} {a3 : Int32} {a4 : Int32} {a5 : Int32} {Q' : Value → zm_S → Prop} (hoa2 : zc_H[oa2]? = some (.inl (.int, noa2, []))) (hi36 : vp_in a5 noa2) (hC : zm_C zc_H d mX0_errorsWith [.ref 2, .int a1, .int (a3 ||| ((1 : Int32) <<< ((w.1 oa2 (a5).toNatClampNeg) &&& 31)))] w Q') (k : ∀ (r : Int32) (u : zm_S), Q' (.int r) u → zm_T zc_H (d + 1) mX0_standing Q 48 [(0, .ref 2), (1, .int a1), (2, .ref oa2), (3, .int (a3 ||| ((1 : Int32) <<< ((w.1 oa2 (a5).toNatClampNeg) &&& 31)))), (5, .int a5)] [.int r, .int a4] u) : zm_T zc_H (d + 1) mX0_standing Q 31 [(0, .ref 2), (1, .int a1), (2, .ref oa2), (3, .int a3), (4, .int a4), (5, .int a5)] [] w := by
  refine zm_iload_n (x := a3) 3 dX0_standing_31 rfl rfl ?_
  refine zm_iconst dX0_standing_32 (v := (1 : Int32)) (by decide) ?_
  refine zm_aload_n (x := oa2) 2 dX0_standing_33 rfl rfl ?_
  refine zm_iload (x := a5) 5 dX0_standing_34 rfl ?_
  refine zm_iald dX0_standing_36 hoa2 hi36 ?_
  refine zm_ishl dX0_standing_37 ?_
  refine zm_ior dX0_standing_38 ?_
  refine zm_istore_n dX0_standing_39 rfl (Nat.le_of_ble_eq_true rfl) (ls' := [(3, .int (a3 ||| ((1 : Int32) <<< ((w.1 oa2 (a5).toNatClampNeg) &&& 31)))), (0, .ref 2), (1, .int a1), (2, .ref oa2), (4, .int a4), (5, .int a5)]) rfl ?_
  refine zm_iload (x := a4) 4 dX0_standing_40 rfl ?_
  refine zm_aload_n (x := 2) 1 dX0_standing_42 rfl rfl ?_
  refine zm_iload_n (x := a1) 2 dX0_standing_43 rfl rfl ?_
  refine zm_iload_n (x := (a3 ||| ((1 : Int32) <<< ((w.1 oa2 (a5).toNatClampNeg) &&& 31)))) 0 dX0_standing_44 rfl rfl ?_
  refine zm_callVi (as := [.int a1, .int (a3 ||| ((1 : Int32) <<< ((w.1 oa2 (a5).toNatClampNeg) &&& 31)))]) (rest := [.int a4]) dX0_standing_45 rfl mtX0_errorsWith lkX0_94 zc_H2 (C := RX0) rfl rfl rfl (Nat.le_of_ble_eq_true rfl) hC rfl (fun r u hq => ?_)
  refine zm_sub [1, 2, 3, 0, 5] rfl ?_
  exact k r u hq
theorem gX0_standing_48 {d : Nat} {Q : Value → zm_S → Prop} {w : zm_S} {a1 : Int32} {oa2 : Nat} {noa2 : Nat} {a3 : Int32} {a5 : Int32} {s0 : Int32} {s1 : Int32} (hoa2 : zc_H[oa2]? = some (.inl (.int, noa2, []))) (k : zm_T zc_H d mX0_standing Q 15 [(0, .ref 2), (1, .int a1), (2, .ref oa2), (3, .int a3), (4, .int (if ((s0 <<< ((3 : Int32) &&& 31)) ||| (a5 + (1 : Int32))) < s1 then ((s0 <<< ((3 : Int32) &&& 31)) ||| (a5 + (1 : Int32))) else s1)), (5, .int (a5 + (1 : Int32)))] [] w) : zm_T zc_H d mX0_standing Q 48 [(0, .ref 2), (1, .int a1), (2, .ref oa2), (3, .int a3), (5, .int a5)] [.int s0, .int s1] w := by
  refine zm_iconst dX0_standing_48 (v := (3 : Int32)) (by decide) ?_
  refine zm_ishl dX0_standing_49 ?_
  refine zm_iload (x := a5) 4 dX0_standing_50 rfl ?_
  refine zm_iconst dX0_standing_52 (v := (1 : Int32)) (by decide) ?_
  refine zm_iadd dX0_standing_53 ?_
  refine zm_ior dX0_standing_54 ?_
  refine zm_mmin dX0_standing_55 lkX0_97 zm_mmmin (Nat.le_of_ble_eq_true rfl) ?_
  refine zm_istore dX0_standing_58 (Nat.le_of_ble_eq_true rfl) (ls' := [(4, .int (if ((s0 <<< ((3 : Int32) &&& 31)) ||| (a5 + (1 : Int32))) < s1 then ((s0 <<< ((3 : Int32) &&& 31)) ||| (a5 + (1 : Int32))) else s1)), (0, .ref 2), (1, .int a1), (2, .ref oa2), (3, .int a3), (5, .int a5)]) rfl ?_
  refine zm_iinc 5 dX0_standing_60 (x := a5) (v := (a5 + (1 : Int32))) rfl rfl (Nat.le_of_ble_eq_true rfl) (ls' := [(5, .int (a5 + (1 : Int32))), (4, .int (if ((s0 <<< ((3 : Int32) &&& 31)) ||| (a5 + (1 : Int32))) < s1 then ((s0 <<< ((3 : Int32) &&& 31)) ||| (a5 + (1 : Int32))) else s1)), (0, .ref 2), (1, .int a1), (2, .ref oa2), (3, .int a3)]) rfl ?_
  refine zm_goto 15 dX0_standing_63 (by decide) ?_
  refine zm_sub [2, 3, 4, 5, 1, 0] rfl ?_
  exact k
theorem gX0_standing_66 {d : Nat} {Q : Value → zm_S → Prop} {w : zm_S} {a4 : Int32} (k : Q (.int a4) w) : zm_T zc_H d mX0_standing Q 66 [(4, .int a4)] [] w := by
  refine zm_iload (x := a4) 0 dX0_standing_66 rfl ?_
  exact zm_ireturn dX0_standing_68 rfl k
theorem gX0_chanceAbove_0 {d : Nat} {Q : Value → zm_S → Prop} {w : zm_S} {a1 : Int32} {a2 : Int32} {a3 : Int32} {a4 : Int32} {Q' : Value → zm_S → Prop} (hC : zm_C zc_H d mX0_yesOf [.ref 2, .int a1] w Q') (k : ∀ (r : Int32) (u : zm_S), Q' (.int r) u → zm_T zc_H (d + 1) mX0_chanceAbove Q 5 [(0, .ref 2), (1, .int a1), (2, .int a2), (3, .int a3), (4, .int a4)] [.int r] u) : zm_T zc_H (d + 1) mX0_chanceAbove Q 0 [(0, .ref 2), (1, .int a1), (2, .int a2), (3, .int a3), (4, .int a4)] [] w := by
  refine zm_aload_n (x := 2) 0 dX0_chanceAbove_0 rfl rfl ?_
  refine zm_iload_n (x := a1) 1 dX0_chanceAbove_1 rfl rfl ?_
  refine zm_callVi (as := [.int a1]) (rest := []) dX0_chanceAbove_2 rfl mtX0_yesOf lkX0_69 zc_H2 (C := RX0) rfl rfl rfl (Nat.le_of_ble_eq_true rfl) hC rfl (fun r u hq => ?_)
  exact k r u hq
theorem gX0_chanceAbove_5 {d : Nat} {Q : Value → zm_S → Prop} {w : zm_S} {a1 : Int32} {a2 : Int32} {a3 : Int32} {a4 : Int32} {s0 : Int32} {Q' : Value → zm_S → Prop} (hC : zm_C zc_H d mX0_noOf [.ref 2, .int a1] w Q') (k : ∀ (r : Int32) (u : zm_S), Q' (.int r) u → zm_T zc_H (d + 1) mX0_chanceAbove Q 12 [(2, .int a2), (3, .int a3), (4, .int a4), (5, .int s0)] [.int r] u) : zm_T zc_H (d + 1) mX0_chanceAbove Q 5 [(0, .ref 2), (1, .int a1), (2, .int a2), (3, .int a3), (4, .int a4)] [.int s0] w := by
  refine zm_istore dX0_chanceAbove_5 (Nat.le_of_ble_eq_true rfl) (ls' := [(5, .int s0), (0, .ref 2), (1, .int a1), (2, .int a2), (3, .int a3), (4, .int a4)]) rfl ?_
  refine zm_aload_n (x := 2) 1 dX0_chanceAbove_7 rfl rfl ?_
  refine zm_iload_n (x := a1) 2 dX0_chanceAbove_8 rfl rfl ?_
  refine zm_callVi (as := [.int a1]) (rest := []) dX0_chanceAbove_9 rfl mtX0_noOf lkX0_73 zc_H2 (C := RX0) rfl rfl rfl (Nat.le_of_ble_eq_true rfl) hC rfl (fun r u hq => ?_)
  refine zm_sub [3, 4, 5, 0] rfl ?_
  exact k r u hq
theorem gX0_chanceAbove_12 {d : Nat} {Q : Value → zm_S → Prop} {w : zm_S} {a2 : Int32} {a3 : Int32} {a4 : Int32} {a5 : Int32} {s0 : Int32} {Q' : Value → zm_S → Prop} (hC : zm_C zc_H d mJ6_bitCount_0f7a4 [.int (a5 &&& a2)] w Q') (k : ∀ (r : Int32) (u : zm_S), Q' (.int r) u → zm_T zc_H (d + 1) mX0_chanceAbove Q 26 [(2, .int a2), (3, .int a3), (4, .int a4), (5, .int a5), (6, .int s0)] [.int r, .long ((((16 : Int32) - a3)).toInt64)] u) : zm_T zc_H (d + 1) mX0_chanceAbove Q 12 [(2, .int a2), (3, .int a3), (4, .int a4), (5, .int a5)] [.int s0] w := by
  refine zm_istore dX0_chanceAbove_12 (Nat.le_of_ble_eq_true rfl) (ls' := [(6, .int s0), (2, .int a2), (3, .int a3), (4, .int a4), (5, .int a5)]) rfl ?_
  refine zm_bipush dX0_chanceAbove_14 (v := (16 : Int32)) (by decide) ?_
  refine zm_iload_n (x := a3) 2 dX0_chanceAbove_16 rfl rfl ?_
  refine zm_isub dX0_chanceAbove_17 ?_
  refine zm_i2l dX0_chanceAbove_18 ?_
  refine zm_iload (x := a5) 4 dX0_chanceAbove_19 rfl ?_
  refine zm_iload_n (x := a2) 1 dX0_chanceAbove_21 rfl rfl ?_
  refine zm_iand dX0_chanceAbove_22 ?_
  refine zm_callSi (as := [.int (a5 &&& a2)]) (rest := [.long ((((16 : Int32) - a3)).toInt64)]) dX0_chanceAbove_23 rfl mtJ6_bitCount_0f7a4 lkX0_76 rfl (Nat.le_of_ble_eq_true rfl) hC rfl (fun r u hq => ?_)
  refine zm_sub [1, 2, 3, 4, 0] rfl ?_
  exact k r u hq
theorem gX0_chanceAbove_26 {d : Nat} {Q : Value → zm_S → Prop} {w : zm_S} {a2 : Int32} {a3 : Int32} {a4 : Int32} {a5 : Int32} {a6 : Int32} {s0 : Int32} {s1 : Int64} {Q' : Value → zm_S → Prop} (hC : zm_C zc_H d mX0_power [.long s1, .int s0] w Q') (k : ∀ (r : Int64) (u : zm_S), Q' (.long r) u → zm_T zc_H (d + 1) mX0_chanceAbove Q 29 [(2, .int a2), (3, .int a3), (4, .int a4), (5, .int a5), (6, .int a6)] [.long r] u) : zm_T zc_H (d + 1) mX0_chanceAbove Q 26 [(2, .int a2), (3, .int a3), (4, .int a4), (5, .int a5), (6, .int a6)] [.int s0, .long s1] w := by
  refine zm_callSl (as := [.long s1, .int s0]) (rest := []) dX0_chanceAbove_26 rfl mtX0_power lkX0_100 rfl (Nat.le_of_ble_eq_true rfl) hC rfl (fun r u hq => ?_)
  exact k r u hq
theorem gX0_chanceAbove_29 {d : Nat} {Q : Value → zm_S → Prop} {w : zm_S} {a2 : Int32} {a3 : Int32} {a4 : Int32} {a5 : Int32} {a6 : Int32} {s0 : Int64} {Q' : Value → zm_S → Prop} (hC : zm_C zc_H d mJ6_bitCount_0f7a4 [.int (a6 &&& a2)] w Q') (k : ∀ (r : Int32) (u : zm_S), Q' (.int r) u → zm_T zc_H (d + 1) mX0_chanceAbove Q 38 [(2, .int a2), (4, .int a4), (5, .int a5), (6, .int a6)] [.int r, .long ((a3).toInt64), .long s0] u) : zm_T zc_H (d + 1) mX0_chanceAbove Q 29 [(2, .int a2), (3, .int a3), (4, .int a4), (5, .int a5), (6, .int a6)] [.long s0] w := by
  refine zm_iload_n (x := a3) 1 dX0_chanceAbove_29 rfl rfl ?_
  refine zm_i2l dX0_chanceAbove_30 ?_
  refine zm_iload (x := a6) 4 dX0_chanceAbove_31 rfl ?_
  refine zm_iload_n (x := a2) 0 dX0_chanceAbove_33 rfl rfl ?_
  refine zm_iand dX0_chanceAbove_34 ?_
  refine zm_callSi (as := [.int (a6 &&& a2)]) (rest := [.long ((a3).toInt64), .long s0]) dX0_chanceAbove_35 rfl mtJ6_bitCount_0f7a4 lkX0_76 rfl (Nat.le_of_ble_eq_true rfl) hC rfl (fun r u hq => ?_)
  refine zm_sub [0, 2, 3, 4] rfl ?_
  exact k r u hq
theorem gX0_chanceAbove_38 {d : Nat} {Q : Value → zm_S → Prop} {w : zm_S} {a2 : Int32} {a4 : Int32} {a5 : Int32} {a6 : Int32} {s0 : Int32} {s1 : Int64} {s2 : Int64} {Q' : Value → zm_S → Prop} (hC : zm_C zc_H d mX0_power [.long s1, .int s0] w Q') (k : ∀ (r : Int64) (u : zm_S), Q' (.long r) u → zm_T zc_H (d + 1) mX0_chanceAbove Q 41 [(2, .int a2), (4, .int a4), (5, .int a5), (6, .int a6)] [.long r, .long s2] u) : zm_T zc_H (d + 1) mX0_chanceAbove Q 38 [(2, .int a2), (4, .int a4), (5, .int a5), (6, .int a6)] [.int s0, .long s1, .long s2] w := by
  refine zm_callSl (as := [.long s1, .int s0]) (rest := [.long s2]) dX0_chanceAbove_38 rfl mtX0_power lkX0_100 rfl (Nat.le_of_ble_eq_true rfl) hC rfl (fun r u hq => ?_)
  exact k r u hq
theorem gX0_chanceAbove_41 {d : Nat} {Q : Value → zm_S → Prop} {w : zm_S} {a2 : Int32} {a4 : Int32} {a5 : Int32} {a6 : Int32} {s0 : Int64} {s1 : Int64} {Q' : Value → zm_S → Prop} (hC : zm_C zc_H d mJ6_bitCount_0f7a4 [.int (a5 &&& (a2 ^^^ (-1 : Int32)))] w Q') (k : ∀ (r : Int32) (u : zm_S), Q' (.int r) u → zm_T zc_H (d + 1) mX0_chanceAbove Q 54 [(2, .int a2), (4, .int a4), (6, .int a6)] [.int r, .long ((a4).toInt64), .long (s1 * s0)] u) : zm_T zc_H (d + 1) mX0_chanceAbove Q 41 [(2, .int a2), (4, .int a4), (5, .int a5), (6, .int a6)] [.long s0, .long s1] w := by
  refine zm_lmul dX0_chanceAbove_41 ?_
  refine zm_iload (x := a4) 1 dX0_chanceAbove_42 rfl ?_
  refine zm_i2l dX0_chanceAbove_44 ?_
  refine zm_iload (x := a5) 2 dX0_chanceAbove_45 rfl ?_
  refine zm_iload_n (x := a2) 0 dX0_chanceAbove_47 rfl rfl ?_
  refine zm_iconst dX0_chanceAbove_48 (v := (-1 : Int32)) (by decide) ?_
  refine zm_ixor dX0_chanceAbove_49 ?_
  refine zm_iand dX0_chanceAbove_50 ?_
  refine zm_callSi (as := [.int (a5 &&& (a2 ^^^ (-1 : Int32)))]) (rest := [.long ((a4).toInt64), .long (s1 * s0)]) dX0_chanceAbove_51 rfl mtJ6_bitCount_0f7a4 lkX0_76 rfl (Nat.le_of_ble_eq_true rfl) hC rfl (fun r u hq => ?_)
  refine zm_sub [0, 1, 3] rfl ?_
  exact k r u hq
theorem gX0_chanceAbove_54 {d : Nat} {Q : Value → zm_S → Prop} {w : zm_S} {a2 : Int32} {a4 : Int32} {a6 : Int32} {s0 : Int32} {s1 : Int64} {s2 : Int64} {Q' : Value → zm_S → Prop} (hC : zm_C zc_H d mX0_power [.long s1, .int s0] w Q') (k : ∀ (r : Int64) (u : zm_S), Q' (.long r) u → zm_T zc_H (d + 1) mX0_chanceAbove Q 57 [(2, .int a2), (4, .int a4), (6, .int a6)] [.long r, .long s2] u) : zm_T zc_H (d + 1) mX0_chanceAbove Q 54 [(2, .int a2), (4, .int a4), (6, .int a6)] [.int s0, .long s1, .long s2] w := by
  refine zm_callSl (as := [.long s1, .int s0]) (rest := [.long s2]) dX0_chanceAbove_54 rfl mtX0_power lkX0_100 rfl (Nat.le_of_ble_eq_true rfl) hC rfl (fun r u hq => ?_)
  exact k r u hq
theorem gX0_chanceAbove_57 {d : Nat} {Q : Value → zm_S → Prop} {w : zm_S} {a2 : Int32} {a4 : Int32} {a6 : Int32} {s0 : Int64} {s1 : Int64} {Q' : Value → zm_S → Prop} (hC : zm_C zc_H d mJ6_bitCount_0f7a4 [.int (a6 &&& (a2 ^^^ (-1 : Int32)))] w Q') (k : ∀ (r : Int32) (u : zm_S), Q' (.int r) u → zm_T zc_H (d + 1) mX0_chanceAbove Q 73 [] [.int r, .long ((((16 : Int32) - a4)).toInt64), .long (s1 * s0)] u) : zm_T zc_H (d + 1) mX0_chanceAbove Q 57 [(2, .int a2), (4, .int a4), (6, .int a6)] [.long s0, .long s1] w := by
  refine zm_lmul dX0_chanceAbove_57 ?_
  refine zm_bipush dX0_chanceAbove_58 (v := (16 : Int32)) (by decide) ?_
  refine zm_iload (x := a4) 1 dX0_chanceAbove_60 rfl ?_
  refine zm_isub dX0_chanceAbove_62 ?_
  refine zm_i2l dX0_chanceAbove_63 ?_
  refine zm_iload (x := a6) 2 dX0_chanceAbove_64 rfl ?_
  refine zm_iload_n (x := a2) 0 dX0_chanceAbove_66 rfl rfl ?_
  refine zm_iconst dX0_chanceAbove_67 (v := (-1 : Int32)) (by decide) ?_
  refine zm_ixor dX0_chanceAbove_68 ?_
  refine zm_iand dX0_chanceAbove_69 ?_
  refine zm_callSi (as := [.int (a6 &&& (a2 ^^^ (-1 : Int32)))]) (rest := [.long ((((16 : Int32) - a4)).toInt64), .long (s1 * s0)]) dX0_chanceAbove_70 rfl mtJ6_bitCount_0f7a4 lkX0_76 rfl (Nat.le_of_ble_eq_true rfl) hC rfl (fun r u hq => ?_)
  refine zm_sub [] rfl ?_
  exact k r u hq
theorem gX0_chanceAbove_73 {d : Nat} {Q : Value → zm_S → Prop} {w : zm_S} {s0 : Int32} {s1 : Int64} {s2 : Int64} {Q' : Value → zm_S → Prop} (hC : zm_C zc_H d mX0_power [.long s1, .int s0] w Q') (k : ∀ (r : Int64) (u : zm_S), Q' (.long r) u → zm_T zc_H (d + 1) mX0_chanceAbove Q 76 [] [.long r, .long s2] u) : zm_T zc_H (d + 1) mX0_chanceAbove Q 73 [] [.int s0, .long s1, .long s2] w := by
  refine zm_callSl (as := [.long s1, .int s0]) (rest := [.long s2]) dX0_chanceAbove_73 rfl mtX0_power lkX0_100 rfl (Nat.le_of_ble_eq_true rfl) hC rfl (fun r u hq => ?_)
  exact k r u hq
theorem gX0_chanceAbove_76 {d : Nat} {Q : Value → zm_S → Prop} {w : zm_S} {s0 : Int64} {s1 : Int64} (k : Q (.long (s1 * s0)) w) : zm_T zc_H d mX0_chanceAbove Q 76 [] [.long s0, .long s1] w := by
  refine zm_lmul dX0_chanceAbove_76 ?_
  exact zm_lreturn dX0_chanceAbove_77 rfl k
theorem gX0_chanceBelow_0 {d : Nat} {Q : Value → zm_S → Prop} {w : zm_S} {a1 : Int32} {Q' : Value → zm_S → Prop} (hC : zm_C zc_H d mX0_given [.ref 2, .int a1] w Q') (k : ∀ (r : Int32) (u : zm_S), Q' (.int r) u → zm_T zc_H (d + 1) mX0_chanceBelow Q 8 [] [.int r, .long (16 : Int64)] u) : zm_T zc_H (d + 1) mX0_chanceBelow Q 0 [(0, .ref 2), (1, .int a1)] [] w := by
  refine zm_ldc2_w dX0_chanceBelow_0 kcX0_104 ?_
  refine zm_aload_n (x := 2) 0 dX0_chanceBelow_3 rfl rfl ?_
  refine zm_iload_n (x := a1) 1 dX0_chanceBelow_4 rfl rfl ?_
  refine zm_callVi (as := [.int a1]) (rest := [.long (16 : Int64)]) dX0_chanceBelow_5 rfl mtX0_given lkX0_81 zc_H2 (C := RX0) rfl rfl rfl (Nat.le_of_ble_eq_true rfl) hC rfl (fun r u hq => ?_)
  refine zm_sub [] rfl ?_
  exact k r u hq
theorem gX0_chanceBelow_8 {d : Nat} {Q : Value → zm_S → Prop} {w : zm_S} {s0 : Int32} {s1 : Int64} {Q' : Value → zm_S → Prop} (hC : zm_C zc_H d mX0_power [.long s1, .int s0] w Q') (k : ∀ (r : Int64) (u : zm_S), Q' (.long r) u → zm_T zc_H (d + 1) mX0_chanceBelow Q 11 [] [.long r] u) : zm_T zc_H (d + 1) mX0_chanceBelow Q 8 [] [.int s0, .long s1] w := by
  refine zm_callSl (as := [.long s1, .int s0]) (rest := []) dX0_chanceBelow_8 rfl mtX0_power lkX0_100 rfl (Nat.le_of_ble_eq_true rfl) hC rfl (fun r u hq => ?_)
  exact k r u hq
theorem gX0_chanceBelow_11 {d : Nat} {Q : Value → zm_S → Prop} {w : zm_S} {s0 : Int64} (k : Q (.long s0) w) : zm_T zc_H d mX0_chanceBelow Q 11 [] [.long s0] w := by
  exact zm_lreturn dX0_chanceBelow_11 rfl k
theorem gX0_power_0 {d : Nat} {Q : Value → zm_S → Prop} {w : zm_S} {a0 : Int64} {a2 : Int32} (k : zm_T zc_H d mX0_power Q 5 [(0, .long a0), (2, .int a2), (3, .long (1 : Int64)), (5, .int (0 : Int32))] [] w) : zm_T zc_H d mX0_power Q 0 [(0, .long a0), (2, .int a2)] [] w := by
  refine zm_lconst dX0_power_0 (v := (1 : Int64)) (by decide) ?_
  refine zm_lstore_n dX0_power_1 rfl (Nat.le_of_ble_eq_true rfl) (ls' := [(3, .long (1 : Int64)), (0, .long a0), (2, .int a2)]) rfl ?_
  refine zm_iconst dX0_power_2 (v := (0 : Int32)) (by decide) ?_
  refine zm_istore dX0_power_3 (Nat.le_of_ble_eq_true rfl) (ls' := [(5, .int (0 : Int32)), (3, .long (1 : Int64)), (0, .long a0), (2, .int a2)]) rfl ?_
  refine zm_sub [2, 3, 1, 0] rfl ?_
  exact k
theorem gX0_power_5 {d : Nat} {Q : Value → zm_S → Prop} {w : zm_S} {a0 : Int64} {a2 : Int32} {a3 : Int64} {a5 : Int32} (kt : a2 ≤ a5 → zm_T zc_H d mX0_power Q 21 [(3, .long a3)] [] w) (kf : ¬ a2 ≤ a5 → zm_T zc_H d mX0_power Q 11 [(0, .long a0), (2, .int a2), (3, .long a3), (5, .int a5)] [] w) : zm_T zc_H d mX0_power Q 5 [(0, .long a0), (2, .int a2), (3, .long a3), (5, .int a5)] [] w := by
  refine zm_iload (x := a5) 3 dX0_power_5 rfl ?_
  refine zm_iload_n (x := a2) 1 dX0_power_7 rfl rfl ?_
  refine zm_icmp_ge 21 dX0_power_8 (by decide) (fun h => ?_) (fun h => ?_)
  · refine zm_sub [2] rfl ?_
    exact kt h
  · exact kf h
theorem gX0_power_11 {d : Nat} {Q : Value → zm_S → Prop} {w : zm_S} {a0 : Int64} {a2 : Int32} {a3 : Int64} {a5 : Int32} (k : zm_T zc_H d mX0_power Q 5 [(0, .long a0), (2, .int a2), (3, .long (a3 * a0)), (5, .int (a5 + (1 : Int32)))] [] w) : zm_T zc_H d mX0_power Q 11 [(0, .long a0), (2, .int a2), (3, .long a3), (5, .int a5)] [] w := by
  refine zm_lload_n (x := a3) 2 dX0_power_11 rfl rfl ?_
  refine zm_lload_n (x := a0) 0 dX0_power_12 rfl rfl ?_
  refine zm_lmul dX0_power_13 ?_
  refine zm_lstore_n dX0_power_14 rfl (Nat.le_of_ble_eq_true rfl) (ls' := [(3, .long (a3 * a0)), (0, .long a0), (2, .int a2), (5, .int a5)]) rfl ?_
  refine zm_iinc 3 dX0_power_15 (x := a5) (v := (a5 + (1 : Int32))) rfl rfl (Nat.le_of_ble_eq_true rfl) (ls' := [(5, .int (a5 + (1 : Int32))), (3, .long (a3 * a0)), (0, .long a0), (2, .int a2)]) rfl ?_
  refine zm_goto 5 dX0_power_18 (by decide) ?_
  refine zm_sub [2, 3, 1, 0] rfl ?_
  exact k
theorem gX0_power_21 {d : Nat} {Q : Value → zm_S → Prop} {w : zm_S} {a3 : Int64} (k : Q (.long a3) w) : zm_T zc_H d mX0_power Q 21 [(3, .long a3)] [] w := by
  refine zm_lload_n (x := a3) 0 dX0_power_21 rfl rfl ?_
  exact zm_lreturn dX0_power_22 rfl k
