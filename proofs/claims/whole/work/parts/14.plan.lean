theorem gX3_begin_0 {d : Nat} {Q : Value → zm_S → Prop} {w : zm_S} (k : Q .null (zm_pi w 30 3 (0 : Int32))) : zm_T zc_H d mX3_begin Q 0 [(0, .ref 30)] [] w := by
  refine zm_aload_n (x := 30) 0 dX3_begin_0 rfl rfl ?_
  refine zm_iconst dX3_begin_1 (v := (0 : Int32)) (by decide) ?_
  refine zm_putf (j := 3) (ty := .int) dX3_begin_2 clX3 flX3_23 (Nat.le_of_ble_eq_true rfl) zc_H30 rfl rfl (by decide +kernel) rfl rfl ?_
  exact zm_return dX3_begin_5 rfl k
theorem gX3_admit_0 {d : Nat} {Q : Value → zm_S → Prop} {w : zm_S} {a1 : Int32} (kt : (12 : Int32) ≤ (w.1 30 3) → zm_T zc_H d mX3_admit Q 31 [] [] w) (kf : ¬ (12 : Int32) ≤ (w.1 30 3) → zm_T zc_H d mX3_admit Q 9 [(0, .ref 30), (1, .int a1)] [] w) : zm_T zc_H d mX3_admit Q 0 [(0, .ref 30), (1, .int a1)] [] w := by
  refine zm_aload_n (x := 30) 0 dX3_admit_0 rfl rfl ?_
  refine zm_getf (v := .int (w.1 30 3)) (j := 3) dX3_admit_1 clX3 flX3_23 (Nat.le_of_ble_eq_true rfl) zc_H30 rfl rfl ?_
  refine zm_bipush dX3_admit_4 (v := (12 : Int32)) (by decide) ?_
  refine zm_icmp_ge 31 dX3_admit_6 (by decide) (fun h => ?_) (fun h => ?_)
  · refine zm_sub [] rfl ?_
    exact kt h
  · exact kf h
theorem gX3_admit_9 {d : Nat} {Q : Value → zm_S → Prop} {w : zm_S} {a1 : Int32} {q14 : Nat} (hi14 : vp_in (0 : Int32) 5) (hq14 : ([34, 35, 36, 37, 38] : List Nat)[((0 : Int32)).toNatClampNeg]? = some q14) (hi20 : vp_in (w.1 30 3) 12) (k : zm_T zc_H d mX3_admit Q 31 [] [] (zm_pi (zm_pi w q14 ((w.1 30 3)).toNatClampNeg a1) 30 3 (((zm_pi w q14 ((w.1 30 3)).toNatClampNeg a1).1 30 3) + (1 : Int32)))) : zm_T zc_H d mX3_admit Q 9 [(0, .ref 30), (1, .int a1)] [] w := by
  refine zm_aload_n (x := 30) 0 dX3_admit_9 rfl rfl ?_
  refine zm_getf (v := .ref 31) (j := 0) dX3_admit_10 clX3 flX3_11 (Nat.le_of_ble_eq_true rfl) zc_H30 rfl rfl ?_
  refine zm_iconst dX3_admit_13 (v := (0 : Int32)) (by decide) ?_
  refine zm_gald dX3_admit_14 zc_H31 hi14 hq14 ?_
  refine zm_aload_n (x := 30) 0 dX3_admit_15 rfl rfl ?_
  refine zm_getf (v := .int (w.1 30 3)) (j := 3) dX3_admit_16 clX3 flX3_23 (Nat.le_of_ble_eq_true rfl) zc_H30 rfl rfl ?_
  refine zm_iload_n (x := a1) 1 dX3_admit_19 rfl rfl ?_
  refine zm_iast dX3_admit_20 (zc_gr_of hq14) hi20 ?_
  refine zm_aload_n (x := 30) 0 dX3_admit_21 rfl rfl ?_
  refine zm_dup dX3_admit_22 rfl ?_
  refine zm_getf (v := .int ((zm_pi w q14 ((w.1 30 3)).toNatClampNeg a1).1 30 3)) (j := 3) dX3_admit_23 clX3 flX3_23 (Nat.le_of_ble_eq_true rfl) zc_H30 rfl rfl ?_
  refine zm_iconst dX3_admit_26 (v := (1 : Int32)) (by decide) ?_
  refine zm_iadd dX3_admit_27 ?_
  refine zm_putf (j := 3) (ty := .int) dX3_admit_28 clX3 flX3_23 (Nat.le_of_ble_eq_true rfl) zc_H30 rfl rfl (by decide +kernel) rfl rfl ?_
  refine zm_sub [] rfl ?_
  exact k
theorem gX3_admit_31 {d : Nat} {Q : Value → zm_S → Prop} {w : zm_S} (k : Q .null w) : zm_T zc_H d mX3_admit Q 31 [] [] w := by
  exact zm_return dX3_admit_31 rfl k
theorem gX3_choose_0 {d : Nat} {Q : Value → zm_S → Prop} {w : zm_S} {a1 : Int32} {Q' : Value → zm_S → Prop} (hC : zm_C zc_H d mX3_teach [.ref 30, .int (0 : Int32), .int (0 : Int32), .ref 23] (zm_pi (zm_pi w 30 4 a1) 30 5 (-1 : Int32)) Q') (k : ∀ (u : zm_S), Q' .null u → zm_T zc_H (d + 1) mX3_choose Q 17 [] [] u) : zm_T zc_H (d + 1) mX3_choose Q 0 [(0, .ref 30), (1, .int a1), (2, .ref 23)] [] w := by
  refine zm_aload_n (x := 30) 0 dX3_choose_0 rfl rfl ?_
  refine zm_iload_n (x := a1) 1 dX3_choose_1 rfl rfl ?_
  refine zm_putf (j := 4) (ty := .int) dX3_choose_2 clX3 flX3_27 (Nat.le_of_ble_eq_true rfl) zc_H30 rfl rfl (by decide +kernel) rfl rfl ?_
  refine zm_aload_n (x := 30) 0 dX3_choose_5 rfl rfl ?_
  refine zm_iconst dX3_choose_6 (v := (-1 : Int32)) (by decide) ?_
  refine zm_putf (j := 5) (ty := .int) dX3_choose_7 clX3 flX3_30 (Nat.le_of_ble_eq_true rfl) zc_H30 rfl rfl (by decide +kernel) rfl rfl ?_
  refine zm_aload_n (x := 30) 0 dX3_choose_10 rfl rfl ?_
  refine zm_iconst dX3_choose_11 (v := (0 : Int32)) (by decide) ?_
  refine zm_iconst dX3_choose_12 (v := (0 : Int32)) (by decide) ?_
  refine zm_aload_n (x := 23) 2 dX3_choose_13 rfl rfl ?_
  refine zm_callVv (as := [.int (0 : Int32), .int (0 : Int32), .ref 23]) (rest := []) dX3_choose_14 rfl mtX3_teach lkX3_33 zc_H30 (C := RX3) rfl rfl rfl (Nat.le_of_ble_eq_true rfl) hC rfl (fun u hq => ?_)
  refine zm_sub [] rfl ?_
  exact k u hq
theorem gX3_choose_17 {d : Nat} {Q : Value → zm_S → Prop} {w : zm_S} (k : Q .null w) : zm_T zc_H d mX3_choose Q 17 [] [] w := by
  exact zm_return dX3_choose_17 rfl k
theorem gX3_teach_0 {d : Nat} {Q : Value → zm_S → Prop} {w : zm_S} {a1 : Int32} {a2 : Int32} (kt : a1 < (w.1 30 4) → zm_T zc_H d mX3_teach Q 14 [(0, .ref 30), (1, .int a1), (2, .int a2), (3, .ref 23)] [] w) (kf : ¬ a1 < (w.1 30 4) → zm_T zc_H d mX3_teach Q 8 [(0, .ref 30), (2, .int a2)] [] w) : zm_T zc_H d mX3_teach Q 0 [(0, .ref 30), (1, .int a1), (2, .int a2), (3, .ref 23)] [] w := by
  refine zm_iload_n (x := a1) 1 dX3_teach_0 rfl rfl ?_
  refine zm_aload_n (x := 30) 0 dX3_teach_1 rfl rfl ?_
  refine zm_getf (v := .int (w.1 30 4)) (j := 4) dX3_teach_2 clX3 flX3_27 (Nat.le_of_ble_eq_true rfl) zc_H30 rfl rfl ?_
  refine zm_icmp_lt 14 dX3_teach_5 (by decide) (fun h => ?_) (fun h => ?_)
  · exact kt h
  · refine zm_sub [0, 2] rfl ?_
    exact kf h
theorem gX3_teach_8 {d : Nat} {Q : Value → zm_S → Prop} {w : zm_S} {a2 : Int32} {Q' : Value → zm_S → Prop} (hC : zm_C zc_H d mX3_judge [.ref 30, .int a2] w Q') (k : ∀ (u : zm_S), Q' .null u → zm_T zc_H (d + 1) mX3_teach Q 13 [] [] u) : zm_T zc_H (d + 1) mX3_teach Q 8 [(0, .ref 30), (2, .int a2)] [] w := by
  refine zm_aload_n (x := 30) 0 dX3_teach_8 rfl rfl ?_
  refine zm_iload_n (x := a2) 1 dX3_teach_9 rfl rfl ?_
  refine zm_callVv (as := [.int a2]) (rest := []) dX3_teach_10 rfl mtX3_judge lkX3_37 zc_H30 (C := RX3) rfl rfl rfl (Nat.le_of_ble_eq_true rfl) hC rfl (fun u hq => ?_)
  refine zm_sub [] rfl ?_
  exact k u hq
theorem gX3_teach_13 {d : Nat} {Q : Value → zm_S → Prop} {w : zm_S} (k : Q .null w) : zm_T zc_H d mX3_teach Q 13 [] [] w := by
  exact zm_return dX3_teach_13 rfl k
theorem gX3_teach_14 {d : Nat} {Q : Value → zm_S → Prop} {w : zm_S} {a1 : Int32} {a2 : Int32} (k : zm_T zc_H d mX3_teach Q 17 [(0, .ref 30), (1, .int a1), (2, .int a2), (3, .ref 23), (4, .int (0 : Int32))] [] w) : zm_T zc_H d mX3_teach Q 14 [(0, .ref 30), (1, .int a1), (2, .int a2), (3, .ref 23)] [] w := by
  refine zm_iconst dX3_teach_14 (v := (0 : Int32)) (by decide) ?_
  refine zm_istore dX3_teach_15 (Nat.le_of_ble_eq_true rfl) (ls' := [(4, .int (0 : Int32)), (0, .ref 30), (1, .int a1), (2, .int a2), (3, .ref 23)]) rfl ?_
  refine zm_sub [1, 2, 3, 4, 0] rfl ?_
  exact k
theorem gX3_teach_17 {d : Nat} {Q : Value → zm_S → Prop} {w : zm_S} {a1 : Int32} {a2 : Int32} {a4 : Int32} (kt : (w.1 23 5) ≤ a4 → zm_T zc_H d mX3_teach Q 79 [] [] w) (kf : ¬ (w.1 23 5) ≤ a4 → zm_T zc_H d mX3_teach Q 26 [(0, .ref 30), (1, .int a1), (2, .int a2), (3, .ref 23), (4, .int a4)] [] w) : zm_T zc_H d mX3_teach Q 17 [(0, .ref 30), (1, .int a1), (2, .int a2), (3, .ref 23), (4, .int a4)] [] w := by
  refine zm_iload (x := a4) 4 dX3_teach_17 rfl ?_
  refine zm_aload_n (x := 23) 3 dX3_teach_19 rfl rfl ?_
  refine zm_getf (v := .int (w.1 23 5)) (j := 5) dX3_teach_20 clX6 flX3_41 (Nat.le_of_ble_eq_true rfl) zc_H23 rfl rfl ?_
  refine zm_icmp_ge 79 dX3_teach_23 (by decide) (fun h => ?_) (fun h => ?_)
  · refine zm_sub [] rfl ?_
    exact kt h
  · exact kf h
theorem gX3_teach_26 {d : Nat} {Q : Value → zm_S → Prop} {w : zm_S} {a1 : Int32} {a2 : Int32} {a4 : Int32} (kt : (w.1 30 5) < (a2 + (((w.1 30 4) - a1) * (w.1 30 3))) → zm_T zc_H d mX3_teach Q 47 [(0, .ref 30), (1, .int a1), (2, .int a2), (3, .ref 23), (4, .int a4)] [] w) (kf : ¬ (w.1 30 5) < (a2 + (((w.1 30 4) - a1) * (w.1 30 3))) → zm_T zc_H d mX3_teach Q 46 [] [] w) : zm_T zc_H d mX3_teach Q 26 [(0, .ref 30), (1, .int a1), (2, .int a2), (3, .ref 23), (4, .int a4)] [] w := by
  refine zm_iload_n (x := a2) 2 dX3_teach_26 rfl rfl ?_
  refine zm_aload_n (x := 30) 0 dX3_teach_27 rfl rfl ?_
  refine zm_getf (v := .int (w.1 30 4)) (j := 4) dX3_teach_28 clX3 flX3_27 (Nat.le_of_ble_eq_true rfl) zc_H30 rfl rfl ?_
  refine zm_iload_n (x := a1) 1 dX3_teach_31 rfl rfl ?_
  refine zm_isub dX3_teach_32 ?_
  refine zm_aload_n (x := 30) 0 dX3_teach_33 rfl rfl ?_
  refine zm_getf (v := .int (w.1 30 3)) (j := 3) dX3_teach_34 clX3 flX3_23 (Nat.le_of_ble_eq_true rfl) zc_H30 rfl rfl ?_
  refine zm_imul dX3_teach_37 ?_
  refine zm_iadd dX3_teach_38 ?_
  refine zm_aload_n (x := 30) 0 dX3_teach_39 rfl rfl ?_
  refine zm_getf (v := .int (w.1 30 5)) (j := 5) dX3_teach_40 clX3 flX3_30 (Nat.le_of_ble_eq_true rfl) zc_H30 rfl rfl ?_
  refine zm_icmp_gt 47 dX3_teach_43 (by decide) (fun h => ?_) (fun h => ?_)
  · exact kt h
  · refine zm_sub [] rfl ?_
    exact kf h
theorem gX3_teach_46 {d : Nat} {Q : Value → zm_S → Prop} {w : zm_S} (k : Q .null w) : zm_T zc_H d mX3_teach Q 46 [] [] w := by
  exact zm_return dX3_teach_46 rfl k
theorem gX3_teach_47 {d : Nat} {Q : Value → zm_S → Prop} {w : zm_S} {a1 : Int32} {a2 : Int32} {a4 : Int32} {Q' : Value → zm_S → Prop} (hi54 : vp_in a1 4) (hC : zm_C zc_H d mX3_lesson [.ref 30, .int a1, .int a4, .ref 23] (zm_pi w 32 (a1).toNatClampNeg a4) Q') (k : ∀ (r : Int32) (u : zm_S), Q' (.int r) u → zm_T zc_H (d + 1) mX3_teach Q 68 [(0, .ref 30), (1, .int a1), (2, .int a2), (3, .ref 23), (4, .int a4)] [.int r, .int a2, .int (a1 + (1 : Int32)), .ref 30] u) : zm_T zc_H (d + 1) mX3_teach Q 47 [(0, .ref 30), (1, .int a1), (2, .int a2), (3, .ref 23), (4, .int a4)] [] w := by
  refine zm_aload_n (x := 30) 0 dX3_teach_47 rfl rfl ?_
  refine zm_getf (v := .ref 32) (j := 1) dX3_teach_48 clX3 flX3_16 (Nat.le_of_ble_eq_true rfl) zc_H30 rfl rfl ?_
  refine zm_iload_n (x := a1) 1 dX3_teach_51 rfl rfl ?_
  refine zm_iload (x := a4) 4 dX3_teach_52 rfl ?_
  refine zm_iast dX3_teach_54 zc_H32 hi54 ?_
  refine zm_aload_n (x := 30) 0 dX3_teach_55 rfl rfl ?_
  refine zm_iload_n (x := a1) 1 dX3_teach_56 rfl rfl ?_
  refine zm_iconst dX3_teach_57 (v := (1 : Int32)) (by decide) ?_
  refine zm_iadd dX3_teach_58 ?_
  refine zm_iload_n (x := a2) 2 dX3_teach_59 rfl rfl ?_
  refine zm_aload_n (x := 30) 0 dX3_teach_60 rfl rfl ?_
  refine zm_iload_n (x := a1) 1 dX3_teach_61 rfl rfl ?_
  refine zm_iload (x := a4) 4 dX3_teach_62 rfl ?_
  refine zm_aload_n (x := 23) 3 dX3_teach_64 rfl rfl ?_
  refine zm_callVi (as := [.int a1, .int a4, .ref 23]) (rest := [.int a2, .int (a1 + (1 : Int32)), .ref 30]) dX3_teach_65 rfl mtX3_lesson lkX3_46 zc_H30 (C := RX3) rfl rfl rfl (Nat.le_of_ble_eq_true rfl) hC rfl (fun r u hq => ?_)
  exact k r u hq
theorem gX3_teach_68 {d : Nat} {Q : Value → zm_S → Prop} {w : zm_S} {a1 : Int32} {a2 : Int32} {a4 : Int32} {s0 : Int32} {s1 : Int32} {s2 : Int32} {Q' : Value → zm_S → Prop} (hC : zm_C zc_H d mX3_teach [.ref 30, .int s2, .int (s1 + s0), .ref 23] w Q') (k : ∀ (u : zm_S), Q' .null u → zm_T zc_H (d + 1) mX3_teach Q 73 [(0, .ref 30), (1, .int a1), (2, .int a2), (3, .ref 23), (4, .int a4)] [] u) : zm_T zc_H (d + 1) mX3_teach Q 68 [(0, .ref 30), (1, .int a1), (2, .int a2), (3, .ref 23), (4, .int a4)] [.int s0, .int s1, .int s2, .ref 30] w := by
  refine zm_iadd dX3_teach_68 ?_
  refine zm_aload_n (x := 23) 3 dX3_teach_69 rfl rfl ?_
  refine zm_callVv (as := [.int s2, .int (s1 + s0), .ref 23]) (rest := []) dX3_teach_70 rfl mtX3_teach lkX3_33 zc_H30 (C := RX3) rfl rfl rfl (Nat.le_of_ble_eq_true rfl) hC rfl (fun u hq => ?_)
  exact k u hq
theorem gX3_teach_73 {d : Nat} {Q : Value → zm_S → Prop} {w : zm_S} {a1 : Int32} {a2 : Int32} {a4 : Int32} (k : zm_T zc_H d mX3_teach Q 17 [(0, .ref 30), (1, .int a1), (2, .int a2), (3, .ref 23), (4, .int (a4 + (1 : Int32)))] [] w) : zm_T zc_H d mX3_teach Q 73 [(0, .ref 30), (1, .int a1), (2, .int a2), (3, .ref 23), (4, .int a4)] [] w := by
  refine zm_iinc 4 dX3_teach_73 (x := a4) (v := (a4 + (1 : Int32))) rfl rfl (Nat.le_of_ble_eq_true rfl) (ls' := [(4, .int (a4 + (1 : Int32))), (0, .ref 30), (1, .int a1), (2, .int a2), (3, .ref 23)]) rfl ?_
  refine zm_goto 17 dX3_teach_76 (by decide) ?_
  refine zm_sub [1, 2, 3, 4, 0] rfl ?_
  exact k
theorem gX3_teach_79 {d : Nat} {Q : Value → zm_S → Prop} {w : zm_S} (k : Q .null w) : zm_T zc_H d mX3_teach Q 79 [] [] w := by
  exact zm_return dX3_teach_79 rfl k
theorem gX3_lesson_0 {d : Nat} {Q : Value → zm_S → Prop} {w : zm_S} {a1 : Int32} {a2 : Int32} (k : zm_T zc_H d mX3_lesson Q 11 [(0, .ref 30), (1, .int a1), (3, .ref 23), (4, .int ((1 : Int32) <<< (a2 &&& 31))), (5, .int (0 : Int32)), (6, .int (0 : Int32))] [] w) : zm_T zc_H d mX3_lesson Q 0 [(0, .ref 30), (1, .int a1), (2, .int a2), (3, .ref 23)] [] w := by
  refine zm_iconst dX3_lesson_0 (v := (1 : Int32)) (by decide) ?_
  refine zm_iload_n (x := a2) 2 dX3_lesson_1 rfl rfl ?_
  refine zm_ishl dX3_lesson_2 ?_
  refine zm_istore dX3_lesson_3 (Nat.le_of_ble_eq_true rfl) (ls' := [(4, .int ((1 : Int32) <<< (a2 &&& 31))), (0, .ref 30), (1, .int a1), (2, .int a2), (3, .ref 23)]) rfl ?_
  refine zm_iconst dX3_lesson_5 (v := (0 : Int32)) (by decide) ?_
  refine zm_istore dX3_lesson_6 (Nat.le_of_ble_eq_true rfl) (ls' := [(5, .int (0 : Int32)), (4, .int ((1 : Int32) <<< (a2 &&& 31))), (0, .ref 30), (1, .int a1), (2, .int a2), (3, .ref 23)]) rfl ?_
  refine zm_iconst dX3_lesson_8 (v := (0 : Int32)) (by decide) ?_
  refine zm_istore dX3_lesson_9 (Nat.le_of_ble_eq_true rfl) (ls' := [(6, .int (0 : Int32)), (5, .int (0 : Int32)), (4, .int ((1 : Int32) <<< (a2 &&& 31))), (0, .ref 30), (1, .int a1), (2, .int a2), (3, .ref 23)]) rfl ?_
  refine zm_sub [3, 4, 6, 2, 1, 0] rfl ?_
  exact k
theorem gX3_lesson_11 {d : Nat} {Q : Value → zm_S → Prop} {w : zm_S} {a1 : Int32} {a4 : Int32} {a5 : Int32} {a6 : Int32} (kt : (w.1 30 3) ≤ a6 → zm_T zc_H d mX3_lesson Q 106 [(5, .int a5)] [] w) (kf : ¬ (w.1 30 3) ≤ a6 → zm_T zc_H d mX3_lesson Q 20 [(0, .ref 30), (1, .int a1), (3, .ref 23), (4, .int a4), (5, .int a5), (6, .int a6)] [] w) : zm_T zc_H d mX3_lesson Q 11 [(0, .ref 30), (1, .int a1), (3, .ref 23), (4, .int a4), (5, .int a5), (6, .int a6)] [] w := by
  refine zm_iload (x := a6) 5 dX3_lesson_11 rfl ?_
  refine zm_aload_n (x := 30) 0 dX3_lesson_13 rfl rfl ?_
  refine zm_getf (v := .int (w.1 30 3)) (j := 3) dX3_lesson_14 clX3 flX3_23 (Nat.le_of_ble_eq_true rfl) zc_H30 rfl rfl ?_
  refine zm_icmp_ge 106 dX3_lesson_17 (by decide) (fun h => ?_) (fun h => ?_)
  · refine zm_sub [4] rfl ?_
    exact kt h
  · exact kf h
theorem gX3_lesson_20 {d : Nat} {Q : Value → zm_S → Prop} {w : zm_S} {a1 : Int32} {a4 : Int32} {a5 : Int32} {a6 : Int32} {q25 : Nat} (hi25 : vp_in a1 5) (hq25 : ([34, 35, 36, 37, 38] : List Nat)[(a1).toNatClampNeg]? = some q25) (hi28 : vp_in a6 12) (kt : ¬ ((w.1 q25 (a6).toNatClampNeg) &&& a4) = 0 → zm_T zc_H d mX3_lesson Q 56 [(0, .ref 30), (1, .int a1), (3, .ref 23), (4, .int a4), (5, .int a5), (6, .int a6), (7, .int (w.1 q25 (a6).toNatClampNeg))] [] w) (kf : ((w.1 q25 (a6).toNatClampNeg) &&& a4) = 0 → zm_T zc_H d mX3_lesson Q 39 [(0, .ref 30), (1, .int a1), (3, .ref 23), (4, .int a4), (5, .int a5), (6, .int a6), (7, .int (w.1 q25 (a6).toNatClampNeg))] [] w) : zm_T zc_H d mX3_lesson Q 20 [(0, .ref 30), (1, .int a1), (3, .ref 23), (4, .int a4), (5, .int a5), (6, .int a6)] [] w := by
  refine zm_aload_n (x := 30) 0 dX3_lesson_20 rfl rfl ?_
  refine zm_getf (v := .ref 31) (j := 0) dX3_lesson_21 clX3 flX3_11 (Nat.le_of_ble_eq_true rfl) zc_H30 rfl rfl ?_
  refine zm_iload_n (x := a1) 1 dX3_lesson_24 rfl rfl ?_
  refine zm_gald dX3_lesson_25 zc_H31 hi25 hq25 ?_
  refine zm_iload (x := a6) 5 dX3_lesson_26 rfl ?_
  refine zm_iald dX3_lesson_28 (zc_gr_of hq25) hi28 ?_
  refine zm_istore dX3_lesson_29 (Nat.le_of_ble_eq_true rfl) (ls' := [(7, .int (w.1 q25 (a6).toNatClampNeg)), (0, .ref 30), (1, .int a1), (3, .ref 23), (4, .int a4), (5, .int a5), (6, .int a6)]) rfl ?_
  refine zm_iload (x := (w.1 q25 (a6).toNatClampNeg)) 0 dX3_lesson_31 rfl ?_
  refine zm_iload (x := a4) 4 dX3_lesson_33 rfl ?_
  refine zm_iand dX3_lesson_35 ?_
  refine zm_if_ne 56 dX3_lesson_36 (by decide) (fun h => ?_) (fun h => ?_)
  · refine zm_sub [1, 2, 3, 4, 5, 6, 0] rfl ?_
    exact kt h
  · refine zm_sub [1, 2, 3, 4, 5, 6, 0] rfl ?_
    exact kf h
theorem gX3_lesson_39 {d : Nat} {Q : Value → zm_S → Prop} {w : zm_S} {a1 : Int32} {a4 : Int32} {a5 : Int32} {a6 : Int32} {a7 : Int32} (hi48 : vp_in (a7 ||| a4) 128) (kt : (w.1 25 ((a7 ||| a4)).toNatClampNeg) = 0 → zm_T zc_H d mX3_lesson Q 56 [(0, .ref 30), (1, .int a1), (3, .ref 23), (4, .int a4), (5, .int a5), (6, .int a6), (7, .int a7)] [] w) (kf : ¬ (w.1 25 ((a7 ||| a4)).toNatClampNeg) = 0 → zm_T zc_H d mX3_lesson Q 52 [(0, .ref 30), (1, .int a1), (3, .ref 23), (4, .int a4), (5, .int a5), (6, .int a6), (7, .int a7)] [] w) : zm_T zc_H d mX3_lesson Q 39 [(0, .ref 30), (1, .int a1), (3, .ref 23), (4, .int a4), (5, .int a5), (6, .int a6), (7, .int a7)] [] w := by
  refine zm_aload_n (x := 23) 2 dX3_lesson_39 rfl rfl ?_
  refine zm_getf (v := .ref 25) (j := 1) dX3_lesson_40 clX6 flX3_50 (Nat.le_of_ble_eq_true rfl) zc_H23 rfl rfl ?_
  refine zm_iload (x := a7) 6 dX3_lesson_43 rfl ?_
  refine zm_iload (x := a4) 3 dX3_lesson_45 rfl ?_
  refine zm_ior dX3_lesson_47 ?_
  refine zm_zald dX3_lesson_48 zc_H25 hi48 ?_
  refine zm_if_eq 56 dX3_lesson_49 (by decide) (fun h => ?_) (fun h => ?_)
  · exact kt h
  · exact kf h
theorem gX3_lesson_52 {d : Nat} {Q : Value → zm_S → Prop} {w : zm_S} {a1 : Int32} {a4 : Int32} {a5 : Int32} {a6 : Int32} {a7 : Int32} (k : zm_T zc_H d mX3_lesson Q 57 [(0, .ref 30), (1, .int a1), (3, .ref 23), (4, .int a4), (5, .int a5), (6, .int a6), (7, .int a7)] [.int (1 : Int32)] w) : zm_T zc_H d mX3_lesson Q 52 [(0, .ref 30), (1, .int a1), (3, .ref 23), (4, .int a4), (5, .int a5), (6, .int a6), (7, .int a7)] [] w := by
  refine zm_iconst dX3_lesson_52 (v := (1 : Int32)) (by decide) ?_
  refine zm_goto 57 dX3_lesson_53 (by decide) ?_
  exact k
theorem gX3_lesson_56 {d : Nat} {Q : Value → zm_S → Prop} {w : zm_S} {a1 : Int32} {a4 : Int32} {a5 : Int32} {a6 : Int32} {a7 : Int32} (k : zm_T zc_H d mX3_lesson Q 57 [(0, .ref 30), (1, .int a1), (3, .ref 23), (4, .int a4), (5, .int a5), (6, .int a6), (7, .int a7)] [.int (0 : Int32)] w) : zm_T zc_H d mX3_lesson Q 56 [(0, .ref 30), (1, .int a1), (3, .ref 23), (4, .int a4), (5, .int a5), (6, .int a6), (7, .int a7)] [] w := by
  refine zm_iconst dX3_lesson_56 (v := (0 : Int32)) (by decide) ?_
  exact k
theorem gX3_lesson_57 {d : Nat} {Q : Value → zm_S → Prop} {w : zm_S} {a1 : Int32} {a4 : Int32} {a5 : Int32} {a6 : Int32} {a7 : Int32} {s0 : Int32} {q66 : Nat} (hi66 : vp_in (a1 + (1 : Int32)) 5) (hq66 : ([34, 35, 36, 37, 38] : List Nat)[((a1 + (1 : Int32))).toNatClampNeg]? = some q66) (kt : s0 = 0 → zm_T zc_H d mX3_lesson Q 82 [(0, .ref 30), (1, .int a1), (3, .ref 23), (4, .int a4), (5, .int a5), (6, .int a6), (7, .int a7), (8, .int s0)] [.int a6, .ref q66] w) (kf : ¬ s0 = 0 → zm_T zc_H d mX3_lesson Q 74 [(0, .ref 30), (1, .int a1), (3, .ref 23), (4, .int a4), (5, .int a5), (6, .int a6), (7, .int a7), (8, .int s0)] [.int a6, .ref q66] w) : zm_T zc_H d mX3_lesson Q 57 [(0, .ref 30), (1, .int a1), (3, .ref 23), (4, .int a4), (5, .int a5), (6, .int a6), (7, .int a7)] [.int s0] w := by
  refine zm_istore dX3_lesson_57 (Nat.le_of_ble_eq_true rfl) (ls' := [(8, .int s0), (0, .ref 30), (1, .int a1), (3, .ref 23), (4, .int a4), (5, .int a5), (6, .int a6), (7, .int a7)]) rfl ?_
  refine zm_aload_n (x := 30) 1 dX3_lesson_59 rfl rfl ?_
  refine zm_getf (v := .ref 31) (j := 0) dX3_lesson_60 clX3 flX3_11 (Nat.le_of_ble_eq_true rfl) zc_H30 rfl rfl ?_
  refine zm_iload_n (x := a1) 2 dX3_lesson_63 rfl rfl ?_
  refine zm_iconst dX3_lesson_64 (v := (1 : Int32)) (by decide) ?_
  refine zm_iadd dX3_lesson_65 ?_
  refine zm_gald dX3_lesson_66 zc_H31 hi66 hq66 ?_
  refine zm_iload (x := a6) 6 dX3_lesson_67 rfl ?_
  refine zm_iload (x := s0) 0 dX3_lesson_69 rfl ?_
  refine zm_if_eq 82 dX3_lesson_71 (by decide) (fun h => ?_) (fun h => ?_)
  · refine zm_sub [1, 2, 3, 4, 5, 6, 7, 0] rfl ?_
    exact kt h
  · refine zm_sub [1, 2, 3, 4, 5, 6, 7, 0] rfl ?_
    exact kf h
theorem gX3_lesson_74 {d : Nat} {Q : Value → zm_S → Prop} {w : zm_S} {a1 : Int32} {a4 : Int32} {a5 : Int32} {a6 : Int32} {a7 : Int32} {a8 : Int32} {s0 : Int32} {os1 : Nat} (hos1 : zc_H[os1]? = some (.inl (.int, 12, []))) (k : zm_T zc_H d mX3_lesson Q 84 [(0, .ref 30), (1, .int a1), (3, .ref 23), (4, .int a4), (5, .int a5), (6, .int a6), (8, .int a8)] [.int (a7 ||| a4), .int s0, .ref os1] w) : zm_T zc_H d mX3_lesson Q 74 [(0, .ref 30), (1, .int a1), (3, .ref 23), (4, .int a4), (5, .int a5), (6, .int a6), (7, .int a7), (8, .int a8)] [.int s0, .ref os1] w := by
  refine zm_iload (x := a7) 6 dX3_lesson_74 rfl ?_
  refine zm_iload (x := a4) 3 dX3_lesson_76 rfl ?_
  refine zm_ior dX3_lesson_78 ?_
  refine zm_goto 84 dX3_lesson_79 (by decide) ?_
  refine zm_sub [0, 1, 2, 3, 4, 5, 7] rfl ?_
  exact k
theorem gX3_lesson_82 {d : Nat} {Q : Value → zm_S → Prop} {w : zm_S} {a1 : Int32} {a4 : Int32} {a5 : Int32} {a6 : Int32} {a7 : Int32} {a8 : Int32} {s0 : Int32} {os1 : Nat} (hos1 : zc_H[os1]? = some (.inl (.int, 12, []))) (k : zm_T zc_H d mX3_lesson Q 84 [(0, .ref 30), (1, .int a1), (3, .ref 23), (4, .int a4), (5, .int a5), (6, .int a6), (8, .int a8)] [.int a7, .int s0, .ref os1] w) : zm_T zc_H d mX3_lesson Q 82 [(0, .ref 30), (1, .int a1), (3, .ref 23), (4, .int a4), (5, .int a5), (6, .int a6), (7, .int a7), (8, .int a8)] [.int s0, .ref os1] w := by
  refine zm_iload (x := a7) 6 dX3_lesson_82 rfl ?_
  refine zm_sub [0, 1, 2, 3, 4, 5, 7] rfl ?_
  exact k
theorem gX3_lesson_84 {d : Nat} {Q : Value → zm_S → Prop} {w : zm_S} {a1 : Int32} {a4 : Int32} {a5 : Int32} {a6 : Int32} {a8 : Int32} {s0 : Int32} {s1 : Int32} {os2 : Nat} (hos2 : zc_H[os2]? = some (.inl (.int, 12, []))) (hi84 : vp_in s1 12) (kt : a8 = 0 → zm_T zc_H d mX3_lesson Q 96 [(0, .ref 30), (1, .int a1), (3, .ref 23), (4, .int a4), (6, .int a6)] [.int a5] (zm_pi w os2 (s1).toNatClampNeg s0)) (kf : ¬ a8 = 0 → zm_T zc_H d mX3_lesson Q 92 [(0, .ref 30), (1, .int a1), (3, .ref 23), (4, .int a4), (6, .int a6)] [.int a5] (zm_pi w os2 (s1).toNatClampNeg s0)) : zm_T zc_H d mX3_lesson Q 84 [(0, .ref 30), (1, .int a1), (3, .ref 23), (4, .int a4), (5, .int a5), (6, .int a6), (8, .int a8)] [.int s0, .int s1, .ref os2] w := by
  refine zm_iast dX3_lesson_84 hos2 hi84 ?_
  refine zm_iload (x := a5) 4 dX3_lesson_85 rfl ?_
  refine zm_iload (x := a8) 6 dX3_lesson_87 rfl ?_
  refine zm_if_eq 96 dX3_lesson_89 (by decide) (fun h => ?_) (fun h => ?_)
  · refine zm_sub [0, 1, 2, 3, 5] rfl ?_
    exact kt h
  · refine zm_sub [0, 1, 2, 3, 5] rfl ?_
    exact kf h
theorem gX3_lesson_92 {d : Nat} {Q : Value → zm_S → Prop} {w : zm_S} {a1 : Int32} {a4 : Int32} {a6 : Int32} {s0 : Int32} (k : zm_T zc_H d mX3_lesson Q 97 [(0, .ref 30), (1, .int a1), (3, .ref 23), (4, .int a4), (6, .int a6)] [.int (1 : Int32), .int s0] w) : zm_T zc_H d mX3_lesson Q 92 [(0, .ref 30), (1, .int a1), (3, .ref 23), (4, .int a4), (6, .int a6)] [.int s0] w := by
  refine zm_iconst dX3_lesson_92 (v := (1 : Int32)) (by decide) ?_
  refine zm_goto 97 dX3_lesson_93 (by decide) ?_
  exact k
theorem gX3_lesson_96 {d : Nat} {Q : Value → zm_S → Prop} {w : zm_S} {a1 : Int32} {a4 : Int32} {a6 : Int32} {s0 : Int32} (k : zm_T zc_H d mX3_lesson Q 97 [(0, .ref 30), (1, .int a1), (3, .ref 23), (4, .int a4), (6, .int a6)] [.int (0 : Int32), .int s0] w) : zm_T zc_H d mX3_lesson Q 96 [(0, .ref 30), (1, .int a1), (3, .ref 23), (4, .int a4), (6, .int a6)] [.int s0] w := by
  refine zm_iconst dX3_lesson_96 (v := (0 : Int32)) (by decide) ?_
  exact k
theorem gX3_lesson_97 {d : Nat} {Q : Value → zm_S → Prop} {w : zm_S} {a1 : Int32} {a4 : Int32} {a6 : Int32} {s0 : Int32} {s1 : Int32} (k : zm_T zc_H d mX3_lesson Q 11 [(0, .ref 30), (1, .int a1), (3, .ref 23), (4, .int a4), (5, .int (s1 + s0)), (6, .int (a6 + (1 : Int32)))] [] w) : zm_T zc_H d mX3_lesson Q 97 [(0, .ref 30), (1, .int a1), (3, .ref 23), (4, .int a4), (6, .int a6)] [.int s0, .int s1] w := by
  refine zm_iadd dX3_lesson_97 ?_
  refine zm_istore dX3_lesson_98 (Nat.le_of_ble_eq_true rfl) (ls' := [(5, .int (s1 + s0)), (0, .ref 30), (1, .int a1), (3, .ref 23), (4, .int a4), (6, .int a6)]) rfl ?_
  refine zm_iinc 5 dX3_lesson_100 (x := a6) (v := (a6 + (1 : Int32))) rfl rfl (Nat.le_of_ble_eq_true rfl) (ls' := [(6, .int (a6 + (1 : Int32))), (5, .int (s1 + s0)), (0, .ref 30), (1, .int a1), (3, .ref 23), (4, .int a4)]) rfl ?_
  refine zm_goto 11 dX3_lesson_103 (by decide) ?_
  refine zm_sub [2, 3, 4, 5, 1, 0] rfl ?_
  exact k
theorem gX3_lesson_106 {d : Nat} {Q : Value → zm_S → Prop} {w : zm_S} {a5 : Int32} (k : Q (.int a5) w) : zm_T zc_H d mX3_lesson Q 106 [(5, .int a5)] [] w := by
  refine zm_iload (x := a5) 0 dX3_lesson_106 rfl ?_
  exact zm_ireturn dX3_lesson_108 rfl k
theorem gX3_judge_0 {d : Nat} {Q : Value → zm_S → Prop} {w : zm_S} {a1 : Int32} (kt : a1 ≤ (w.1 30 5) → zm_T zc_H d mX3_judge Q 30 [] [] w) (kf : ¬ a1 ≤ (w.1 30 5) → zm_T zc_H d mX3_judge Q 8 [(0, .ref 30), (1, .int a1)] [] w) : zm_T zc_H d mX3_judge Q 0 [(0, .ref 30), (1, .int a1)] [] w := by
  refine zm_iload_n (x := a1) 1 dX3_judge_0 rfl rfl ?_
  refine zm_aload_n (x := 30) 0 dX3_judge_1 rfl rfl ?_
  refine zm_getf (v := .int (w.1 30 5)) (j := 5) dX3_judge_2 clX3 flX3_30 (Nat.le_of_ble_eq_true rfl) zc_H30 rfl rfl ?_
  refine zm_icmp_le 30 dX3_judge_5 (by decide) (fun h => ?_) (fun h => ?_)
  · refine zm_sub [] rfl ?_
    exact kt h
  · exact kf h
theorem gX3_judge_8 {d : Nat} {Q : Value → zm_S → Prop} {w : zm_S} {a1 : Int32} (h1 : ¬ (0 : Int32) < 0) (h2 : ¬ (0 : Int32) < 0) (h3 : ¬ (w.1 30 4) < 0) (h4 : ((0 : Int32)).toNatClampNeg + ((w.1 30 4)).toNatClampNeg ≤ 4) (h5 : ((0 : Int32)).toNatClampNeg + ((w.1 30 4)).toNatClampNeg ≤ 4) (k : zm_T zc_H d mX3_judge Q 30 [] [] (zm_pa (zm_pi w 30 5 a1) 33 (va_cpy ((zm_pi w 30 5 a1).1 32) ((zm_pi w 30 5 a1).1 33) ((0 : Int32)).toNatClampNeg ((0 : Int32)).toNatClampNeg ((w.1 30 4)).toNatClampNeg))) : zm_T zc_H d mX3_judge Q 8 [(0, .ref 30), (1, .int a1)] [] w := by
  refine zm_aload_n (x := 30) 0 dX3_judge_8 rfl rfl ?_
  refine zm_iload_n (x := a1) 1 dX3_judge_9 rfl rfl ?_
  refine zm_putf (j := 5) (ty := .int) dX3_judge_10 clX3 flX3_30 (Nat.le_of_ble_eq_true rfl) zc_H30 rfl rfl (by decide +kernel) rfl rfl ?_
  refine zm_aload_n (x := 30) 0 dX3_judge_13 rfl rfl ?_
  refine zm_getf (v := .ref 32) (j := 1) dX3_judge_14 clX3 flX3_16 (Nat.le_of_ble_eq_true rfl) zc_H30 rfl rfl ?_
  refine zm_iconst dX3_judge_17 (v := (0 : Int32)) (by decide) ?_
  refine zm_aload_n (x := 30) 0 dX3_judge_18 rfl rfl ?_
  refine zm_getf (v := .ref 33) (j := 2) dX3_judge_19 clX3 flX3_20 (Nat.le_of_ble_eq_true rfl) zc_H30 rfl rfl ?_
  refine zm_iconst dX3_judge_22 (v := (0 : Int32)) (by decide) ?_
  refine zm_aload_n (x := 30) 0 dX3_judge_23 rfl rfl ?_
  refine zm_getf (v := .int (w.1 30 4)) (j := 4) dX3_judge_24 clX3 flX3_27 (Nat.le_of_ble_eq_true rfl) zc_H30 rfl rfl ?_
  refine zm_copy dX3_judge_27 lkX3_54 ⟨zm_acn, zm_acs, zm_aci⟩ zc_H32 zc_H33 h1 h2 h3 h4 h5 (Nat.le_of_ble_eq_true rfl) ?_
  refine zm_sub [] rfl ?_
  exact k
theorem gX3_judge_30 {d : Nat} {Q : Value → zm_S → Prop} {w : zm_S} (k : Q .null w) : zm_T zc_H d mX3_judge Q 30 [] [] w := by
  exact zm_return dX3_judge_30 rfl k
