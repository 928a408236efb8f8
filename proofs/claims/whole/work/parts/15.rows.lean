theorem gX4_searchBest_0 {d : Nat} {Q : Value → zm_S → Prop} {w : zm_S} (kt : (w.1 15 7) = 0 → zm_T zc_H d mX4_searchBest Q 8 [(0, .ref 15), (1, .ref 2)] [] w) (kf : ¬ (w.1 15 7) = 0 → zm_T zc_H d mX4_searchBest Q 7 [] [] w) : zm_T zc_H d mX4_searchBest Q 0 [(0, .ref 15), (1, .ref 2)] [] w := by
  refine zm_aload_n (x := 15) 0 dX4_searchBest_0 rfl rfl ?_
  refine zm_getf (v := .int (w.1 15 7)) (j := 7) dX4_searchBest_1 clX4 flX4_34 (Nat.le_of_ble_eq_true rfl) zc_H15 rfl rfl ?_
  refine zm_if_eq 8 dX4_searchBest_4 (by decide) (fun h => ?_) (fun h => ?_)
  · exact kt h
  · refine zm_sub [] rfl ?_
    exact kf h
theorem gX4_searchBest_7 {d : Nat} {Q : Value → zm_S → Prop} {w : zm_S} (k : Q .null w) : zm_T zc_H d mX4_searchBest Q 7 [] [] w := by
  exact zm_return dX4_searchBest_7 rfl k
theorem gX4_searchBest_8 {d : Nat} {Q : Value → zm_S → Prop} {w : zm_S} {Q' : Value → zm_S → Prop} (hC : zm_C zc_H d mX4_takeAnswers [.ref 15, .ref 2] w Q') (k : ∀ (u : zm_S), Q' .null u → zm_T zc_H (d + 1) mX4_searchBest Q 13 [(0, .ref 15)] [] u) : zm_T zc_H (d + 1) mX4_searchBest Q 8 [(0, .ref 15), (1, .ref 2)] [] w := by
  refine zm_aload_n (x := 15) 0 dX4_searchBest_8 rfl rfl ?_
  refine zm_aload_n (x := 2) 1 dX4_searchBest_9 rfl rfl ?_
  refine zm_callVv (as := [.ref 2]) (rest := []) dX4_searchBest_10 rfl mtX4_takeAnswers lkX4_38 zc_H15 (C := RX4) rfl rfl rfl (Nat.le_of_ble_eq_true rfl) hC rfl (fun u hq => ?_)
  refine zm_sub [0] rfl ?_
  exact k u hq
theorem gX4_searchBest_13 {d : Nat} {Q : Value → zm_S → Prop} {w : zm_S} {Q' : Value → zm_S → Prop} (hC : zm_C zc_H d mJ7_fill_53178 [.ref 22, .int (-1 : Int32)] w Q') (k : ∀ (u : zm_S), Q' .null u → zm_T zc_H (d + 1) mX4_searchBest Q 21 [(0, .ref 15)] [] u) : zm_T zc_H (d + 1) mX4_searchBest Q 13 [(0, .ref 15)] [] w := by
  refine zm_aload_n (x := 15) 0 dX4_searchBest_13 rfl rfl ?_
  refine zm_getf (v := .ref 22) (j := 6) dX4_searchBest_14 clX4 flX4_31 (Nat.le_of_ble_eq_true rfl) zc_H15 rfl rfl ?_
  refine zm_iconst dX4_searchBest_17 (v := (-1 : Int32)) (by decide) ?_
  refine zm_callSv (as := [.ref 22, .int (-1 : Int32)]) (rest := []) dX4_searchBest_18 rfl mtJ7_fill_53178 lkX4_42 rfl (Nat.le_of_ble_eq_true rfl) hC rfl (fun u hq => ?_)
  exact k u hq
theorem gX4_searchBest_21 {d : Nat} {Q : Value → zm_S → Prop} {w : zm_S} {Q' : Value → zm_S → Prop} (hC : zm_C zc_H d mX4_search [.ref 15, .int (w.1 15 10)] (zm_pi w 15 8 (1 : Int32)) Q') (k : ∀ (u : zm_S), Q' .null u → zm_T zc_H (d + 1) mX4_searchBest Q 34 [(0, .ref 15)] [] u) : zm_T zc_H (d + 1) mX4_searchBest Q 21 [(0, .ref 15)] [] w := by
  refine zm_aload_n (x := 15) 0 dX4_searchBest_21 rfl rfl ?_
  refine zm_iconst dX4_searchBest_22 (v := (1 : Int32)) (by decide) ?_
  refine zm_putf (j := 8) (ty := .boolean) dX4_searchBest_23 clX4 flX4_48 (Nat.le_of_ble_eq_true rfl) zc_H15 rfl rfl (by decide +kernel) rfl (by decide) ?_
  refine zm_aload_n (x := 15) 0 dX4_searchBest_26 rfl rfl ?_
  refine zm_aload_n (x := 15) 0 dX4_searchBest_27 rfl rfl ?_
  refine zm_getf (v := .int (w.1 15 10)) (j := 10) dX4_searchBest_28 clX4 flX4_51 (Nat.le_of_ble_eq_true rfl) zc_H15 rfl rfl ?_
  refine zm_callVv (as := [.int (w.1 15 10)]) (rest := []) dX4_searchBest_31 rfl mtX4_search lkX4_55 zc_H15 (C := RX4) rfl rfl rfl (Nat.le_of_ble_eq_true rfl) hC rfl (fun u hq => ?_)
  exact k u hq
theorem gX4_searchBest_34 {d : Nat} {Q : Value → zm_S → Prop} {w : zm_S} (k : Q .null (zm_pi (zm_pi (zm_pi (zm_pi w 15 8 (0 : Int32)) 15 14 (w.1 15 12)) 15 15 (w.1 15 13)) 15 7 (1 : Int32))) : zm_T zc_H d mX4_searchBest Q 34 [(0, .ref 15)] [] w := by
  refine zm_aload_n (x := 15) 0 dX4_searchBest_34 rfl rfl ?_
  refine zm_iconst dX4_searchBest_35 (v := (0 : Int32)) (by decide) ?_
  refine zm_putf (j := 8) (ty := .boolean) dX4_searchBest_36 clX4 flX4_48 (Nat.le_of_ble_eq_true rfl) zc_H15 rfl rfl (by decide +kernel) rfl (by decide) ?_
  refine zm_aload_n (x := 15) 0 dX4_searchBest_39 rfl rfl ?_
  refine zm_aload_n (x := 15) 0 dX4_searchBest_40 rfl rfl ?_
  refine zm_getf (v := .int (w.1 15 12)) (j := 12) dX4_searchBest_41 clX4 flX4_59 (Nat.le_of_ble_eq_true rfl) zc_H15 rfl rfl ?_
  refine zm_putf (j := 14) (ty := .int) dX4_searchBest_44 clX4 flX4_62 (Nat.le_of_ble_eq_true rfl) zc_H15 rfl rfl (by decide +kernel) rfl rfl ?_
  refine zm_aload_n (x := 15) 0 dX4_searchBest_47 rfl rfl ?_
  refine zm_aload_n (x := 15) 0 dX4_searchBest_48 rfl rfl ?_
  refine zm_getf (v := .int (w.1 15 13)) (j := 13) dX4_searchBest_49 clX4 flX4_65 (Nat.le_of_ble_eq_true rfl) zc_H15 rfl rfl ?_
  refine zm_putf (j := 15) (ty := .int) dX4_searchBest_52 clX4 flX4_68 (Nat.le_of_ble_eq_true rfl) zc_H15 rfl rfl (by decide +kernel) rfl rfl ?_
  refine zm_aload_n (x := 15) 0 dX4_searchBest_55 rfl rfl ?_
  refine zm_iconst dX4_searchBest_56 (v := (1 : Int32)) (by decide) ?_
  refine zm_putf (j := 7) (ty := .boolean) dX4_searchBest_57 clX4 flX4_34 (Nat.le_of_ble_eq_true rfl) zc_H15 rfl rfl (by decide +kernel) rfl (by decide) ?_
  exact zm_return dX4_searchBest_60 rfl k
theorem gX4_offChanged_0 {d : Nat} {Q : Value → zm_S → Prop} {w : zm_S} {a1 : Int32} {a2 : Int32} (hi12 : vp_in ((a2 * (7 : Int32)) + a1) 14) (kt : ¬ (w.1 22 (((a2 * (7 : Int32)) + a1)).toNatClampNeg) = (-1 : Int32) → zm_T zc_H d mX4_offChanged Q 67 [(0, .ref 15), (3, .int ((a2 * (7 : Int32)) + a1))] [] w) (kf : (w.1 22 (((a2 * (7 : Int32)) + a1)).toNatClampNeg) = (-1 : Int32) → zm_T zc_H d mX4_offChanged Q 17 [(0, .ref 15), (1, .int a1), (2, .int a2), (3, .int ((a2 * (7 : Int32)) + a1))] [] w) : zm_T zc_H d mX4_offChanged Q 0 [(0, .ref 15), (1, .int a1), (2, .int a2)] [] w := by
  refine zm_iload_n (x := a2) 2 dX4_offChanged_0 rfl rfl ?_
  refine zm_bipush dX4_offChanged_1 (v := (7 : Int32)) (by decide) ?_
  refine zm_imul dX4_offChanged_3 ?_
  refine zm_iload_n (x := a1) 1 dX4_offChanged_4 rfl rfl ?_
  refine zm_iadd dX4_offChanged_5 ?_
  refine zm_istore_n dX4_offChanged_6 rfl (Nat.le_of_ble_eq_true rfl) (ls' := [(3, .int ((a2 * (7 : Int32)) + a1)), (0, .ref 15), (1, .int a1), (2, .int a2)]) rfl ?_
  refine zm_aload_n (x := 15) 1 dX4_offChanged_7 rfl rfl ?_
  refine zm_getf (v := .ref 22) (j := 6) dX4_offChanged_8 clX4 flX4_31 (Nat.le_of_ble_eq_true rfl) zc_H15 rfl rfl ?_
  refine zm_iload_n (x := ((a2 * (7 : Int32)) + a1)) 0 dX4_offChanged_11 rfl rfl ?_
  refine zm_iald dX4_offChanged_12 zc_H22 hi12 ?_
  refine zm_iconst dX4_offChanged_13 (v := (-1 : Int32)) (by decide) ?_
  refine zm_icmp_ne 67 dX4_offChanged_14 (by decide) (fun h => ?_) (fun h => ?_)
  · refine zm_sub [1, 0] rfl ?_
    exact kt h
  · refine zm_sub [1, 2, 3, 0] rfl ?_
    exact kf h
theorem gX4_offChanged_17 {d : Nat} {Q : Value → zm_S → Prop} {w : zm_S} {a1 : Int32} {a2 : Int32} {a3 : Int32} (kt : ¬ a2 = (1 : Int32) → zm_T zc_H d mX4_offChanged Q 43 [(0, .ref 15), (1, .int a1), (3, .int a3)] [] w) (kf : a2 = (1 : Int32) → zm_T zc_H d mX4_offChanged Q 22 [(0, .ref 15), (1, .int a1), (3, .int a3)] [] w) : zm_T zc_H d mX4_offChanged Q 17 [(0, .ref 15), (1, .int a1), (2, .int a2), (3, .int a3)] [] w := by
  refine zm_iload_n (x := a2) 2 dX4_offChanged_17 rfl rfl ?_
  refine zm_iconst dX4_offChanged_18 (v := (1 : Int32)) (by decide) ?_
  refine zm_icmp_ne 43 dX4_offChanged_19 (by decide) (fun h => ?_) (fun h => ?_)
  · refine zm_sub [0, 1, 3] rfl ?_
    exact kt h
  · refine zm_sub [0, 1, 3] rfl ?_
    exact kf h
theorem gX4_offChanged_22 {d : Nat} {Q : Value → zm_S → Prop} {w : zm_S} {a1 : Int32} {a3 : Int32} {Q' : Value → zm_S → Prop} (hC : zm_C zc_H d mX4_turn [.ref 15, .int a1] w Q') (k : ∀ (u : zm_S), Q' .null u → zm_T zc_H (d + 1) mX4_offChanged Q 27 [(0, .ref 15), (1, .int a1), (3, .int a3)] [] u) : zm_T zc_H (d + 1) mX4_offChanged Q 22 [(0, .ref 15), (1, .int a1), (3, .int a3)] [] w := by
  refine zm_aload_n (x := 15) 0 dX4_offChanged_22 rfl rfl ?_
  refine zm_iload_n (x := a1) 1 dX4_offChanged_23 rfl rfl ?_
  refine zm_callVv (as := [.int a1]) (rest := []) dX4_offChanged_24 rfl mtX4_turn lkX4_71 zc_H15 (C := RX4) rfl rfl rfl (Nat.le_of_ble_eq_true rfl) hC rfl (fun u hq => ?_)
  exact k u hq
theorem gX4_offChanged_27 {d : Nat} {Q : Value → zm_S → Prop} {w : zm_S} {a1 : Int32} {a3 : Int32} {Q' : Value → zm_S → Prop} (hC : zm_C zc_H d mX4_search [.ref 15, .int (w.1 15 10)] w Q') (k : ∀ (u : zm_S), Q' .null u → zm_T zc_H (d + 1) mX4_offChanged Q 35 [(0, .ref 15), (1, .int a1), (3, .int a3)] [] u) : zm_T zc_H (d + 1) mX4_offChanged Q 27 [(0, .ref 15), (1, .int a1), (3, .int a3)] [] w := by
  refine zm_aload_n (x := 15) 0 dX4_offChanged_27 rfl rfl ?_
  refine zm_aload_n (x := 15) 0 dX4_offChanged_28 rfl rfl ?_
  refine zm_getf (v := .int (w.1 15 10)) (j := 10) dX4_offChanged_29 clX4 flX4_51 (Nat.le_of_ble_eq_true rfl) zc_H15 rfl rfl ?_
  refine zm_callVv (as := [.int (w.1 15 10)]) (rest := []) dX4_offChanged_32 rfl mtX4_search lkX4_55 zc_H15 (C := RX4) rfl rfl rfl (Nat.le_of_ble_eq_true rfl) hC rfl (fun u hq => ?_)
  exact k u hq
theorem gX4_offChanged_35 {d : Nat} {Q : Value → zm_S → Prop} {w : zm_S} {a1 : Int32} {a3 : Int32} {Q' : Value → zm_S → Prop} (hC : zm_C zc_H d mX4_turn [.ref 15, .int a1] w Q') (k : ∀ (u : zm_S), Q' .null u → zm_T zc_H (d + 1) mX4_offChanged Q 40 [(0, .ref 15), (3, .int a3)] [] u) : zm_T zc_H (d + 1) mX4_offChanged Q 35 [(0, .ref 15), (1, .int a1), (3, .int a3)] [] w := by
  refine zm_aload_n (x := 15) 0 dX4_offChanged_35 rfl rfl ?_
  refine zm_iload_n (x := a1) 1 dX4_offChanged_36 rfl rfl ?_
  refine zm_callVv (as := [.int a1]) (rest := []) dX4_offChanged_37 rfl mtX4_turn lkX4_71 zc_H15 (C := RX4) rfl rfl rfl (Nat.le_of_ble_eq_true rfl) hC rfl (fun u hq => ?_)
  refine zm_sub [0, 2] rfl ?_
  exact k u hq
theorem gX4_offChanged_40 {d : Nat} {Q : Value → zm_S → Prop} {w : zm_S} {a3 : Int32} (k : zm_T zc_H d mX4_offChanged Q 57 [(0, .ref 15), (3, .int a3)] [] w) : zm_T zc_H d mX4_offChanged Q 40 [(0, .ref 15), (3, .int a3)] [] w := by
  refine zm_goto 57 dX4_offChanged_40 (by decide) ?_
  exact k
theorem gX4_offChanged_43 {d : Nat} {Q : Value → zm_S → Prop} {w : zm_S} {a1 : Int32} {a3 : Int32} {Q' : Value → zm_S → Prop} (hC : zm_C zc_H d mX4_search [.ref 15, .int ((w.1 15 10) &&& (((1 : Int32) <<< (a1 &&& 31)) ^^^ (-1 : Int32)))] w Q') (k : ∀ (u : zm_S), Q' .null u → zm_T zc_H (d + 1) mX4_offChanged Q 57 [(0, .ref 15), (3, .int a3)] [] u) : zm_T zc_H (d + 1) mX4_offChanged Q 43 [(0, .ref 15), (1, .int a1), (3, .int a3)] [] w := by
  refine zm_aload_n (x := 15) 0 dX4_offChanged_43 rfl rfl ?_
  refine zm_aload_n (x := 15) 0 dX4_offChanged_44 rfl rfl ?_
  refine zm_getf (v := .int (w.1 15 10)) (j := 10) dX4_offChanged_45 clX4 flX4_51 (Nat.le_of_ble_eq_true rfl) zc_H15 rfl rfl ?_
  refine zm_iconst dX4_offChanged_48 (v := (1 : Int32)) (by decide) ?_
  refine zm_iload_n (x := a1) 1 dX4_offChanged_49 rfl rfl ?_
  refine zm_ishl dX4_offChanged_50 ?_
  refine zm_iconst dX4_offChanged_51 (v := (-1 : Int32)) (by decide) ?_
  refine zm_ixor dX4_offChanged_52 ?_
  refine zm_iand dX4_offChanged_53 ?_
  refine zm_callVv (as := [.int ((w.1 15 10) &&& (((1 : Int32) <<< (a1 &&& 31)) ^^^ (-1 : Int32)))]) (rest := []) dX4_offChanged_54 rfl mtX4_search lkX4_55 zc_H15 (C := RX4) rfl rfl rfl (Nat.le_of_ble_eq_true rfl) hC rfl (fun u hq => ?_)
  refine zm_sub [0, 2] rfl ?_
  exact k u hq
theorem gX4_offChanged_57 {d : Nat} {Q : Value → zm_S → Prop} {w : zm_S} {a3 : Int32} (hi66 : vp_in a3 14) (k : zm_T zc_H d mX4_offChanged Q 67 [(0, .ref 15), (3, .int a3)] [] (zm_pi w 22 (a3).toNatClampNeg (w.1 15 12))) : zm_T zc_H d mX4_offChanged Q 57 [(0, .ref 15), (3, .int a3)] [] w := by
  refine zm_aload_n (x := 15) 0 dX4_offChanged_57 rfl rfl ?_
  refine zm_getf (v := .ref 22) (j := 6) dX4_offChanged_58 clX4 flX4_31 (Nat.le_of_ble_eq_true rfl) zc_H15 rfl rfl ?_
  refine zm_iload_n (x := a3) 1 dX4_offChanged_61 rfl rfl ?_
  refine zm_aload_n (x := 15) 0 dX4_offChanged_62 rfl rfl ?_
  refine zm_getf (v := .int (w.1 15 12)) (j := 12) dX4_offChanged_63 clX4 flX4_59 (Nat.le_of_ble_eq_true rfl) zc_H15 rfl rfl ?_
  refine zm_iast dX4_offChanged_66 zc_H22 hi66 ?_
  exact k
theorem gX4_offChanged_67 {d : Nat} {Q : Value → zm_S → Prop} {w : zm_S} {a3 : Int32} (hi72 : vp_in a3 14) (k : Q (.int (w.1 22 (a3).toNatClampNeg)) w) : zm_T zc_H d mX4_offChanged Q 67 [(0, .ref 15), (3, .int a3)] [] w := by
  refine zm_aload_n (x := 15) 0 dX4_offChanged_67 rfl rfl ?_
  refine zm_getf (v := .ref 22) (j := 6) dX4_offChanged_68 clX4 flX4_31 (Nat.le_of_ble_eq_true rfl) zc_H15 rfl rfl ?_
  refine zm_iload_n (x := a3) 1 dX4_offChanged_71 rfl rfl ?_
  refine zm_iald dX4_offChanged_72 zc_H22 hi72 ?_
  exact zm_ireturn dX4_offChanged_73 rfl k
theorem gX4_takeAnswers_0 {d : Nat} {Q : Value → zm_S → Prop} {w : zm_S} {Q' : Value → zm_S → Prop} (hC : zm_C zc_H d mJ7_fill_d0a16 [.ref 16, .long (0 : Int64)] (zm_pi (zm_pi w 15 9 (w.1 2 9)) 15 10 (w.1 2 10)) Q') (k : ∀ (u : zm_S), Q' .null u → zm_T zc_H (d + 1) mX4_takeAnswers Q 24 [(0, .ref 15), (1, .ref 2)] [] u) : zm_T zc_H (d + 1) mX4_takeAnswers Q 0 [(0, .ref 15), (1, .ref 2)] [] w := by
  refine zm_aload_n (x := 15) 0 dX4_takeAnswers_0 rfl rfl ?_
  refine zm_aload_n (x := 2) 1 dX4_takeAnswers_1 rfl rfl ?_
  refine zm_getf (v := .int (w.1 2 9)) (j := 9) dX4_takeAnswers_2 clX0 flX4_74 (Nat.le_of_ble_eq_true rfl) zc_H2 rfl rfl ?_
  refine zm_putf (j := 9) (ty := .int) dX4_takeAnswers_5 clX4 flX4_79 (Nat.le_of_ble_eq_true rfl) zc_H15 rfl rfl (by decide +kernel) rfl rfl ?_
  refine zm_aload_n (x := 15) 0 dX4_takeAnswers_8 rfl rfl ?_
  refine zm_aload_n (x := 2) 1 dX4_takeAnswers_9 rfl rfl ?_
  refine zm_getf (v := .int (w.1 2 10)) (j := 10) dX4_takeAnswers_10 clX0 flX4_80 (Nat.le_of_ble_eq_true rfl) zc_H2 rfl rfl ?_
  refine zm_putf (j := 10) (ty := .int) dX4_takeAnswers_13 clX4 flX4_51 (Nat.le_of_ble_eq_true rfl) zc_H15 rfl rfl (by decide +kernel) rfl rfl ?_
  refine zm_aload_n (x := 15) 0 dX4_takeAnswers_16 rfl rfl ?_
  refine zm_getf (v := .ref 16) (j := 0) dX4_takeAnswers_17 clX4 flX4_9 (Nat.le_of_ble_eq_true rfl) zc_H15 rfl rfl ?_
  refine zm_lconst dX4_takeAnswers_20 (v := (0 : Int64)) (by decide) ?_
  refine zm_callSv (as := [.ref 16, .long (0 : Int64)]) (rest := []) dX4_takeAnswers_21 rfl mtJ7_fill_d0a16 lkX4_81 rfl (Nat.le_of_ble_eq_true rfl) hC rfl (fun u hq => ?_)
  exact k u hq
theorem gX4_takeAnswers_24 {d : Nat} {Q : Value → zm_S → Prop} {w : zm_S} {Q' : Value → zm_S → Prop} (hC : zm_C zc_H d mJ7_fill_d0a16 [.ref 17, .long (0 : Int64)] w Q') (k : ∀ (u : zm_S), Q' .null u → zm_T zc_H (d + 1) mX4_takeAnswers Q 32 [(0, .ref 15), (1, .ref 2)] [] u) : zm_T zc_H (d + 1) mX4_takeAnswers Q 24 [(0, .ref 15), (1, .ref 2)] [] w := by
  refine zm_aload_n (x := 15) 0 dX4_takeAnswers_24 rfl rfl ?_
  refine zm_getf (v := .ref 17) (j := 1) dX4_takeAnswers_25 clX4 flX4_15 (Nat.le_of_ble_eq_true rfl) zc_H15 rfl rfl ?_
  refine zm_lconst dX4_takeAnswers_28 (v := (0 : Int64)) (by decide) ?_
  refine zm_callSv (as := [.ref 17, .long (0 : Int64)]) (rest := []) dX4_takeAnswers_29 rfl mtJ7_fill_d0a16 lkX4_81 rfl (Nat.le_of_ble_eq_true rfl) hC rfl (fun u hq => ?_)
  exact k u hq
theorem gX4_takeAnswers_32 {d : Nat} {Q : Value → zm_S → Prop} {w : zm_S} (k : zm_T zc_H d mX4_takeAnswers Q 34 [(0, .ref 15), (1, .ref 2), (2, .int (0 : Int32))] [] w) : zm_T zc_H d mX4_takeAnswers Q 32 [(0, .ref 15), (1, .ref 2)] [] w := by
  refine zm_iconst dX4_takeAnswers_32 (v := (0 : Int32)) (by decide) ?_
  refine zm_istore_n dX4_takeAnswers_33 rfl (Nat.le_of_ble_eq_true rfl) (ls' := [(2, .int (0 : Int32)), (0, .ref 15), (1, .ref 2)]) rfl ?_
  refine zm_sub [1, 2, 0] rfl ?_
  exact k
theorem gX4_takeAnswers_34 {d : Nat} {Q : Value → zm_S → Prop} {w : zm_S} {a2 : Int32} (kt : (12 : Int32) ≤ a2 → zm_T zc_H d mX4_takeAnswers Q 120 [] [] w) (kf : ¬ (12 : Int32) ≤ a2 → zm_T zc_H d mX4_takeAnswers Q 40 [(0, .ref 15), (1, .ref 2), (2, .int a2)] [] w) : zm_T zc_H d mX4_takeAnswers Q 34 [(0, .ref 15), (1, .ref 2), (2, .int a2)] [] w := by
  refine zm_iload_n (x := a2) 2 dX4_takeAnswers_34 rfl rfl ?_
  refine zm_bipush dX4_takeAnswers_35 (v := (12 : Int32)) (by decide) ?_
  refine zm_icmp_ge 120 dX4_takeAnswers_37 (by decide) (fun h => ?_) (fun h => ?_)
  · refine zm_sub [] rfl ?_
    exact kt h
  · exact kf h
theorem gX4_takeAnswers_40 {d : Nat} {Q : Value → zm_S → Prop} {w : zm_S} {a2 : Int32} (k : zm_T zc_H d mX4_takeAnswers Q 49 [(0, .ref 15), (1, .ref 2), (2, .int a2), (3, .long ((1 : Int64) <<< ((((4 : Int32) * a2)).toInt64 &&& 63))), (5, .int (0 : Int32))] [] w) : zm_T zc_H d mX4_takeAnswers Q 40 [(0, .ref 15), (1, .ref 2), (2, .int a2)] [] w := by
  refine zm_lconst dX4_takeAnswers_40 (v := (1 : Int64)) (by decide) ?_
  refine zm_iconst dX4_takeAnswers_41 (v := (4 : Int32)) (by decide) ?_
  refine zm_iload_n (x := a2) 2 dX4_takeAnswers_42 rfl rfl ?_
  refine zm_imul dX4_takeAnswers_43 ?_
  refine zm_lshl dX4_takeAnswers_44 ?_
  refine zm_lstore_n dX4_takeAnswers_45 rfl (Nat.le_of_ble_eq_true rfl) (ls' := [(3, .long ((1 : Int64) <<< ((((4 : Int32) * a2)).toInt64 &&& 63))), (0, .ref 15), (1, .ref 2), (2, .int a2)]) rfl ?_
  refine zm_iconst dX4_takeAnswers_46 (v := (0 : Int32)) (by decide) ?_
  refine zm_istore dX4_takeAnswers_47 (Nat.le_of_ble_eq_true rfl) (ls' := [(5, .int (0 : Int32)), (3, .long ((1 : Int64) <<< ((((4 : Int32) * a2)).toInt64 &&& 63))), (0, .ref 15), (1, .ref 2), (2, .int a2)]) rfl ?_
  refine zm_sub [2, 3, 4, 1, 0] rfl ?_
  exact k
theorem gX4_takeAnswers_49 {d : Nat} {Q : Value → zm_S → Prop} {w : zm_S} {a2 : Int32} {a3 : Int64} {a5 : Int32} (kt : (w.1 15 9) ≤ a5 → zm_T zc_H d mX4_takeAnswers Q 114 [(0, .ref 15), (1, .ref 2), (2, .int a2)] [] w) (kf : ¬ (w.1 15 9) ≤ a5 → zm_T zc_H d mX4_takeAnswers Q 58 [(0, .ref 15), (1, .ref 2), (2, .int a2), (3, .long a3), (5, .int a5)] [] w) : zm_T zc_H d mX4_takeAnswers Q 49 [(0, .ref 15), (1, .ref 2), (2, .int a2), (3, .long a3), (5, .int a5)] [] w := by
  refine zm_iload (x := a5) 4 dX4_takeAnswers_49 rfl ?_
  refine zm_aload_n (x := 15) 0 dX4_takeAnswers_51 rfl rfl ?_
  refine zm_getf (v := .int (w.1 15 9)) (j := 9) dX4_takeAnswers_52 clX4 flX4_79 (Nat.le_of_ble_eq_true rfl) zc_H15 rfl rfl ?_
  refine zm_icmp_ge 114 dX4_takeAnswers_55 (by decide) (fun h => ?_) (fun h => ?_)
  · refine zm_sub [0, 1, 2] rfl ?_
    exact kt h
  · exact kf h
theorem gX4_takeAnswers_58 {d : Nat} {Q : Value → zm_S → Prop} {w : zm_S} {a2 : Int32} {a3 : Int64} {a5 : Int32} {Q' : Value → zm_S → Prop} (hC : zm_C zc_H d mX0_heard [.ref 2, .int a2, .int a5] w Q') (k : ∀ (r : Int32) (u : zm_S), Q' (.int r) u → zm_T zc_H (d + 1) mX4_takeAnswers Q 65 [(0, .ref 15), (1, .ref 2), (2, .int a2), (3, .long a3), (5, .int a5)] [.int r] u) : zm_T zc_H (d + 1) mX4_takeAnswers Q 58 [(0, .ref 15), (1, .ref 2), (2, .int a2), (3, .long a3), (5, .int a5)] [] w := by
  refine zm_aload_n (x := 2) 1 dX4_takeAnswers_58 rfl rfl ?_
  refine zm_iload_n (x := a2) 2 dX4_takeAnswers_59 rfl rfl ?_
  refine zm_iload (x := a5) 4 dX4_takeAnswers_60 rfl ?_
  refine zm_callVi (as := [.int a2, .int a5]) (rest := []) dX4_takeAnswers_62 rfl mtX0_heard lkX4_84 zc_H2 (C := RX0) rfl rfl rfl (Nat.le_of_ble_eq_true rfl) hC rfl (fun r u hq => ?_)
  exact k r u hq
theorem gX4_takeAnswers_65 {d : Nat} {Q : Value → zm_S → Prop} {w : zm_S} {a2 : Int32} {a3 : Int64} {a5 : Int32} {s0 : Int32} (hi74 : vp_in a5 7) (kt : ¬ s0 = (1 : Int32) → zm_T zc_H d mX4_takeAnswers Q 85 [(0, .ref 15), (1, .ref 2), (2, .int a2), (3, .long a3), (5, .int a5), (6, .int s0)] [.long (w.2 16 (a5).toNatClampNeg), .int a5, .ref 16] w) (kf : s0 = (1 : Int32) → zm_T zc_H d mX4_takeAnswers Q 81 [(0, .ref 15), (1, .ref 2), (2, .int a2), (3, .long a3), (5, .int a5), (6, .int s0)] [.long (w.2 16 (a5).toNatClampNeg), .int a5, .ref 16] w) : zm_T zc_H d mX4_takeAnswers Q 65 [(0, .ref 15), (1, .ref 2), (2, .int a2), (3, .long a3), (5, .int a5)] [.int s0] w := by
  refine zm_istore dX4_takeAnswers_65 (Nat.le_of_ble_eq_true rfl) (ls' := [(6, .int s0), (0, .ref 15), (1, .ref 2), (2, .int a2), (3, .long a3), (5, .int a5)]) rfl ?_
  refine zm_aload_n (x := 15) 1 dX4_takeAnswers_67 rfl rfl ?_
  refine zm_getf (v := .ref 16) (j := 0) dX4_takeAnswers_68 clX4 flX4_9 (Nat.le_of_ble_eq_true rfl) zc_H15 rfl rfl ?_
  refine zm_iload (x := a5) 5 dX4_takeAnswers_71 rfl ?_
  refine zm_dup2 dX4_takeAnswers_73 rfl rfl ?_
  refine zm_lald dX4_takeAnswers_74 zc_H16 hi74 ?_
  refine zm_iload (x := s0) 0 dX4_takeAnswers_75 rfl ?_
  refine zm_iconst dX4_takeAnswers_77 (v := (1 : Int32)) (by decide) ?_
  refine zm_icmp_ne 85 dX4_takeAnswers_78 (by decide) (fun h => ?_) (fun h => ?_)
  · refine zm_sub [1, 2, 3, 4, 5, 0] rfl ?_
    exact kt h
  · refine zm_sub [1, 2, 3, 4, 5, 0] rfl ?_
    exact kf h
theorem gX4_takeAnswers_81 {d : Nat} {Q : Value → zm_S → Prop} {w : zm_S} {a2 : Int32} {a3 : Int64} {a5 : Int32} {a6 : Int32} {s0 : Int64} {s1 : Int32} (k : zm_T zc_H d mX4_takeAnswers Q 86 [(0, .ref 15), (1, .ref 2), (2, .int a2), (3, .long a3), (5, .int a5), (6, .int a6)] [.long a3, .long s0, .int s1, .ref 16] w) : zm_T zc_H d mX4_takeAnswers Q 81 [(0, .ref 15), (1, .ref 2), (2, .int a2), (3, .long a3), (5, .int a5), (6, .int a6)] [.long s0, .int s1, .ref 16] w := by
  refine zm_lload_n (x := a3) 3 dX4_takeAnswers_81 rfl rfl ?_
  refine zm_goto 86 dX4_takeAnswers_82 (by decide) ?_
  exact k
theorem gX4_takeAnswers_85 {d : Nat} {Q : Value → zm_S → Prop} {w : zm_S} {a2 : Int32} {a3 : Int64} {a5 : Int32} {a6 : Int32} {s0 : Int64} {s1 : Int32} (k : zm_T zc_H d mX4_takeAnswers Q 86 [(0, .ref 15), (1, .ref 2), (2, .int a2), (3, .long a3), (5, .int a5), (6, .int a6)] [.long (0 : Int64), .long s0, .int s1, .ref 16] w) : zm_T zc_H d mX4_takeAnswers Q 85 [(0, .ref 15), (1, .ref 2), (2, .int a2), (3, .long a3), (5, .int a5), (6, .int a6)] [.long s0, .int s1, .ref 16] w := by
  refine zm_lconst dX4_takeAnswers_85 (v := (0 : Int64)) (by decide) ?_
  exact k
theorem gX4_takeAnswers_86 {d : Nat} {Q : Value → zm_S → Prop} {w : zm_S} {a2 : Int32} {a3 : Int64} {a5 : Int32} {a6 : Int32} {s0 : Int64} {s1 : Int64} {s2 : Int32} (hi87 : vp_in s2 7) (hi95 : vp_in a5 7) (kt : ¬ a6 = 0 → zm_T zc_H d mX4_takeAnswers Q 105 [(0, .ref 15), (1, .ref 2), (2, .int a2), (3, .long a3), (5, .int a5)] [.long (w.2 17 (a5).toNatClampNeg), .int a5, .ref 17] (zm_pl w 16 (s2).toNatClampNeg (s1 + s0))) (kf : a6 = 0 → zm_T zc_H d mX4_takeAnswers Q 101 [(0, .ref 15), (1, .ref 2), (2, .int a2), (3, .long a3), (5, .int a5)] [.long (w.2 17 (a5).toNatClampNeg), .int a5, .ref 17] (zm_pl w 16 (s2).toNatClampNeg (s1 + s0))) : zm_T zc_H d mX4_takeAnswers Q 86 [(0, .ref 15), (1, .ref 2), (2, .int a2), (3, .long a3), (5, .int a5), (6, .int a6)] [.long s0, .long s1, .int s2, .ref 16] w := by
  refine zm_ladd dX4_takeAnswers_86 ?_
  refine zm_last dX4_takeAnswers_87 zc_H16 hi87 ?_
  refine zm_aload_n (x := 15) 0 dX4_takeAnswers_88 rfl rfl ?_
  refine zm_getf (v := .ref 17) (j := 1) dX4_takeAnswers_89 clX4 flX4_15 (Nat.le_of_ble_eq_true rfl) zc_H15 rfl rfl ?_
  refine zm_iload (x := a5) 4 dX4_takeAnswers_92 rfl ?_
  refine zm_dup2 dX4_takeAnswers_94 rfl rfl ?_
  refine zm_lald dX4_takeAnswers_95 zc_H17 hi95 ?_
  refine zm_iload (x := a6) 5 dX4_takeAnswers_96 rfl ?_
  refine zm_if_ne 105 dX4_takeAnswers_98 (by decide) (fun h => ?_) (fun h => ?_)
  · refine zm_sub [0, 1, 2, 3, 4] rfl ?_
    exact kt h
  · refine zm_sub [0, 1, 2, 3, 4] rfl ?_
    exact kf h
theorem gX4_takeAnswers_101 {d : Nat} {Q : Value → zm_S → Prop} {w : zm_S} {a2 : Int32} {a3 : Int64} {a5 : Int32} {s0 : Int64} {s1 : Int32} (k : zm_T zc_H d mX4_takeAnswers Q 106 [(0, .ref 15), (1, .ref 2), (2, .int a2), (3, .long a3), (5, .int a5)] [.long a3, .long s0, .int s1, .ref 17] w) : zm_T zc_H d mX4_takeAnswers Q 101 [(0, .ref 15), (1, .ref 2), (2, .int a2), (3, .long a3), (5, .int a5)] [.long s0, .int s1, .ref 17] w := by
  refine zm_lload_n (x := a3) 3 dX4_takeAnswers_101 rfl rfl ?_
  refine zm_goto 106 dX4_takeAnswers_102 (by decide) ?_
  exact k
theorem gX4_takeAnswers_105 {d : Nat} {Q : Value → zm_S → Prop} {w : zm_S} {a2 : Int32} {a3 : Int64} {a5 : Int32} {s0 : Int64} {s1 : Int32} (k : zm_T zc_H d mX4_takeAnswers Q 106 [(0, .ref 15), (1, .ref 2), (2, .int a2), (3, .long a3), (5, .int a5)] [.long (0 : Int64), .long s0, .int s1, .ref 17] w) : zm_T zc_H d mX4_takeAnswers Q 105 [(0, .ref 15), (1, .ref 2), (2, .int a2), (3, .long a3), (5, .int a5)] [.long s0, .int s1, .ref 17] w := by
  refine zm_lconst dX4_takeAnswers_105 (v := (0 : Int64)) (by decide) ?_
  exact k
theorem gX4_takeAnswers_106 {d : Nat} {Q : Value → zm_S → Prop} {w : zm_S} {a2 : Int32} {a3 : Int64} {a5 : Int32} {s0 : Int64} {s1 : Int64} {s2 : Int32} (hi107 : vp_in s2 7) (k : zm_T zc_H d mX4_takeAnswers Q 49 [(0, .ref 15), (1, .ref 2), (2, .int a2), (3, .long a3), (5, .int (a5 + (1 : Int32)))] [] (zm_pl w 17 (s2).toNatClampNeg (s1 + s0))) : zm_T zc_H d mX4_takeAnswers Q 106 [(0, .ref 15), (1, .ref 2), (2, .int a2), (3, .long a3), (5, .int a5)] [.long s0, .long s1, .int s2, .ref 17] w := by
  refine zm_ladd dX4_takeAnswers_106 ?_
  refine zm_last dX4_takeAnswers_107 zc_H17 hi107 ?_
  refine zm_iinc 4 dX4_takeAnswers_108 (x := a5) (v := (a5 + (1 : Int32))) rfl rfl (Nat.le_of_ble_eq_true rfl) (ls' := [(5, .int (a5 + (1 : Int32))), (0, .ref 15), (1, .ref 2), (2, .int a2), (3, .long a3)]) rfl ?_
  refine zm_goto 49 dX4_takeAnswers_111 (by decide) ?_
  refine zm_sub [1, 2, 3, 4, 0] rfl ?_
  exact k
theorem gX4_takeAnswers_114 {d : Nat} {Q : Value → zm_S → Prop} {w : zm_S} {a2 : Int32} (k : zm_T zc_H d mX4_takeAnswers Q 34 [(0, .ref 15), (1, .ref 2), (2, .int (a2 + (1 : Int32)))] [] w) : zm_T zc_H d mX4_takeAnswers Q 114 [(0, .ref 15), (1, .ref 2), (2, .int a2)] [] w := by
  refine zm_iinc 2 dX4_takeAnswers_114 (x := a2) (v := (a2 + (1 : Int32))) rfl rfl (Nat.le_of_ble_eq_true rfl) (ls' := [(2, .int (a2 + (1 : Int32))), (0, .ref 15), (1, .ref 2)]) rfl ?_
  refine zm_goto 34 dX4_takeAnswers_117 (by decide) ?_
  refine zm_sub [1, 2, 0] rfl ?_
  exact k
theorem gX4_takeAnswers_120 {d : Nat} {Q : Value → zm_S → Prop} {w : zm_S} (k : Q .null w) : zm_T zc_H d mX4_takeAnswers Q 120 [] [] w := by
  exact zm_return dX4_takeAnswers_120 rfl k
theorem gX4_turn_0 {d : Nat} {Q : Value → zm_S → Prop} {w : zm_S} {a1 : Int32} (hi5 : vp_in a1 7) (hi17 : vp_in a1 7) (hi18 : vp_in a1 7) (hi25 : vp_in a1 7) (k : Q .null (zm_pl (zm_pl w 16 (a1).toNatClampNeg (w.2 17 (a1).toNatClampNeg)) 17 (a1).toNatClampNeg (w.2 16 (a1).toNatClampNeg))) : zm_T zc_H d mX4_turn Q 0 [(0, .ref 15), (1, .int a1)] [] w := by
  refine zm_aload_n (x := 15) 0 dX4_turn_0 rfl rfl ?_
  refine zm_getf (v := .ref 16) (j := 0) dX4_turn_1 clX4 flX4_9 (Nat.le_of_ble_eq_true rfl) zc_H15 rfl rfl ?_
  refine zm_iload_n (x := a1) 1 dX4_turn_4 rfl rfl ?_
  refine zm_lald dX4_turn_5 zc_H16 hi5 ?_
  refine zm_lstore_n dX4_turn_6 rfl (Nat.le_of_ble_eq_true rfl) (ls' := [(2, .long (w.2 16 (a1).toNatClampNeg)), (0, .ref 15), (1, .int a1)]) rfl ?_
  refine zm_aload_n (x := 15) 1 dX4_turn_7 rfl rfl ?_
  refine zm_getf (v := .ref 16) (j := 0) dX4_turn_8 clX4 flX4_9 (Nat.le_of_ble_eq_true rfl) zc_H15 rfl rfl ?_
  refine zm_iload_n (x := a1) 2 dX4_turn_11 rfl rfl ?_
  refine zm_aload_n (x := 15) 1 dX4_turn_12 rfl rfl ?_
  refine zm_getf (v := .ref 17) (j := 1) dX4_turn_13 clX4 flX4_15 (Nat.le_of_ble_eq_true rfl) zc_H15 rfl rfl ?_
  refine zm_iload_n (x := a1) 2 dX4_turn_16 rfl rfl ?_
  refine zm_lald dX4_turn_17 zc_H17 hi17 ?_
  refine zm_last dX4_turn_18 zc_H16 hi18 ?_
  refine zm_aload_n (x := 15) 1 dX4_turn_19 rfl rfl ?_
  refine zm_getf (v := .ref 17) (j := 1) dX4_turn_20 clX4 flX4_15 (Nat.le_of_ble_eq_true rfl) zc_H15 rfl rfl ?_
  refine zm_iload_n (x := a1) 2 dX4_turn_23 rfl rfl ?_
  refine zm_lload_n (x := (w.2 16 (a1).toNatClampNeg)) 0 dX4_turn_24 rfl rfl ?_
  refine zm_last dX4_turn_25 zc_H17 hi25 ?_
  exact zm_return dX4_turn_26 rfl k
theorem gX4_search_0 {d : Nat} {Q : Value → zm_S → Prop} {w : zm_S} {a1 : Int32} {Q' : Value → zm_S → Prop} (hC : zm_C zc_H d mX4_fillTables [.ref 15] (zm_pi w 15 11 a1) Q') (k : ∀ (u : zm_S), Q' .null u → zm_T zc_H (d + 1) mX4_search Q 9 [(0, .ref 15)] [] u) : zm_T zc_H (d + 1) mX4_search Q 0 [(0, .ref 15), (1, .int a1)] [] w := by
  refine zm_aload_n (x := 15) 0 dX4_search_0 rfl rfl ?_
  refine zm_iload_n (x := a1) 1 dX4_search_1 rfl rfl ?_
  refine zm_putf (j := 11) (ty := .int) dX4_search_2 clX4 flX4_88 (Nat.le_of_ble_eq_true rfl) zc_H15 rfl rfl (by decide +kernel) rfl rfl ?_
  refine zm_aload_n (x := 15) 0 dX4_search_5 rfl rfl ?_
  refine zm_callVv (as := []) (rest := []) dX4_search_6 rfl mtX4_fillTables lkX4_91 zc_H15 (C := RX4) rfl rfl rfl (Nat.le_of_ble_eq_true rfl) hC rfl (fun u hq => ?_)
  refine zm_sub [0] rfl ?_
  exact k u hq
theorem gX4_search_9 {d : Nat} {Q : Value → zm_S → Prop} {w : zm_S} {Q' : Value → zm_S → Prop} (hi14 : vp_in (0 : Int32) 128) (hi23 : vp_in (w.1 15 11) 128) (hC : zm_C zc_H d mX4_lesser [.long (w.2 18 ((0 : Int32)).toNatClampNeg), .long (w.2 18 ((w.1 15 11)).toNatClampNeg)] w Q') (k : ∀ (r : Int64) (u : zm_S), Q' (.long r) u → zm_T zc_H (d + 1) mX4_search Q 27 [(0, .ref 15)] [.long r] u) : zm_T zc_H (d + 1) mX4_search Q 9 [(0, .ref 15)] [] w := by
  refine zm_aload_n (x := 15) 0 dX4_search_9 rfl rfl ?_
  refine zm_getf (v := .ref 18) (j := 2) dX4_search_10 clX4 flX4_18 (Nat.le_of_ble_eq_true rfl) zc_H15 rfl rfl ?_
  refine zm_iconst dX4_search_13 (v := (0 : Int32)) (by decide) ?_
  refine zm_lald dX4_search_14 zc_H18 hi14 ?_
  refine zm_aload_n (x := 15) 0 dX4_search_15 rfl rfl ?_
  refine zm_getf (v := .ref 18) (j := 2) dX4_search_16 clX4 flX4_18 (Nat.le_of_ble_eq_true rfl) zc_H15 rfl rfl ?_
  refine zm_aload_n (x := 15) 0 dX4_search_19 rfl rfl ?_
  refine zm_getf (v := .int (w.1 15 11)) (j := 11) dX4_search_20 clX4 flX4_88 (Nat.le_of_ble_eq_true rfl) zc_H15 rfl rfl ?_
  refine zm_lald dX4_search_23 zc_H18 hi23 ?_
  refine zm_callSl (as := [.long (w.2 18 ((0 : Int32)).toNatClampNeg), .long (w.2 18 ((w.1 15 11)).toNatClampNeg)]) (rest := []) dX4_search_24 rfl mtX4_lesser lkX4_94 rfl (Nat.le_of_ble_eq_true rfl) hC rfl (fun r u hq => ?_)
  exact k r u hq
theorem gX4_search_27 {d : Nat} {Q : Value → zm_S → Prop} {w : zm_S} {s0 : Int64} {Q' : Value → zm_S → Prop} (hC : zm_C zc_H d mX4_total [.long s0] w Q') (k : ∀ (r : Int32) (u : zm_S), Q' (.int r) u → zm_T zc_H (d + 1) mX4_search Q 33 [(0, .ref 15), (2, .long s0)] [.int r, .ref 15] u) : zm_T zc_H (d + 1) mX4_search Q 27 [(0, .ref 15)] [.long s0] w := by
  refine zm_lstore_n dX4_search_27 rfl (Nat.le_of_ble_eq_true rfl) (ls' := [(2, .long s0), (0, .ref 15)]) rfl ?_
  refine zm_aload_n (x := 15) 1 dX4_search_28 rfl rfl ?_
  refine zm_lload_n (x := s0) 0 dX4_search_29 rfl rfl ?_
  refine zm_callSi (as := [.long s0]) (rest := [.ref 15]) dX4_search_30 rfl mtX4_total lkX4_98 rfl (Nat.le_of_ble_eq_true rfl) hC rfl (fun r u hq => ?_)
  refine zm_sub [1, 0] rfl ?_
  exact k r u hq
theorem gX4_search_33 {d : Nat} {Q : Value → zm_S → Prop} {w : zm_S} {a2 : Int64} {s0 : Int32} {Q' : Value → zm_S → Prop} (hC : zm_C zc_H d mX4_extend [.ref 15, .int (0 : Int32), .int (0 : Int32), .long a2] (zm_pi (zm_pi w 15 12 s0) 15 13 (0 : Int32)) Q') (k : ∀ (u : zm_S), Q' .null u → zm_T zc_H (d + 1) mX4_search Q 48 [] [] u) : zm_T zc_H (d + 1) mX4_search Q 33 [(0, .ref 15), (2, .long a2)] [.int s0, .ref 15] w := by
  refine zm_putf (j := 12) (ty := .int) dX4_search_33 clX4 flX4_59 (Nat.le_of_ble_eq_true rfl) zc_H15 rfl rfl (by decide +kernel) rfl rfl ?_
  refine zm_aload_n (x := 15) 0 dX4_search_36 rfl rfl ?_
  refine zm_iconst dX4_search_37 (v := (0 : Int32)) (by decide) ?_
  refine zm_putf (j := 13) (ty := .int) dX4_search_38 clX4 flX4_65 (Nat.le_of_ble_eq_true rfl) zc_H15 rfl rfl (by decide +kernel) rfl rfl ?_
  refine zm_aload_n (x := 15) 0 dX4_search_41 rfl rfl ?_
  refine zm_iconst dX4_search_42 (v := (0 : Int32)) (by decide) ?_
  refine zm_iconst dX4_search_43 (v := (0 : Int32)) (by decide) ?_
  refine zm_lload_n (x := a2) 1 dX4_search_44 rfl rfl ?_
  refine zm_callVv (as := [.int (0 : Int32), .int (0 : Int32), .long a2]) (rest := []) dX4_search_45 rfl mtX4_extend lkX4_102 zc_H15 (C := RX4) rfl rfl rfl (Nat.le_of_ble_eq_true rfl) hC rfl (fun u hq => ?_)
  refine zm_sub [] rfl ?_
  exact k u hq
theorem gX4_search_48 {d : Nat} {Q : Value → zm_S → Prop} {w : zm_S} (k : Q .null w) : zm_T zc_H d mX4_search Q 48 [] [] w := by
  exact zm_return dX4_search_48 rfl k
theorem gX4_fillTables_0 {d : Nat} {Q : Value → zm_S → Prop} {w : zm_S} (hi6 : vp_in (0 : Int32) 128) (hi13 : vp_in (0 : Int32) 128) (k : zm_T zc_H d mX4_fillTables Q 16 [(0, .ref 15), (1, .int (0 : Int32))] [] (zm_pl (zm_pl w 18 ((0 : Int32)).toNatClampNeg (0 : Int64)) 19 ((0 : Int32)).toNatClampNeg (0 : Int64))) : zm_T zc_H d mX4_fillTables Q 0 [(0, .ref 15)] [] w := by
  refine zm_aload_n (x := 15) 0 dX4_fillTables_0 rfl rfl ?_
  refine zm_getf (v := .ref 18) (j := 2) dX4_fillTables_1 clX4 flX4_18 (Nat.le_of_ble_eq_true rfl) zc_H15 rfl rfl ?_
  refine zm_iconst dX4_fillTables_4 (v := (0 : Int32)) (by decide) ?_
  refine zm_lconst dX4_fillTables_5 (v := (0 : Int64)) (by decide) ?_
  refine zm_last dX4_fillTables_6 zc_H18 hi6 ?_
  refine zm_aload_n (x := 15) 0 dX4_fillTables_7 rfl rfl ?_
  refine zm_getf (v := .ref 19) (j := 3) dX4_fillTables_8 clX4 flX4_21 (Nat.le_of_ble_eq_true rfl) zc_H15 rfl rfl ?_
  refine zm_iconst dX4_fillTables_11 (v := (0 : Int32)) (by decide) ?_
  refine zm_lconst dX4_fillTables_12 (v := (0 : Int64)) (by decide) ?_
  refine zm_last dX4_fillTables_13 zc_H19 hi13 ?_
  refine zm_iconst dX4_fillTables_14 (v := (0 : Int32)) (by decide) ?_
  refine zm_istore_n dX4_fillTables_15 rfl (Nat.le_of_ble_eq_true rfl) (ls' := [(1, .int (0 : Int32)), (0, .ref 15)]) rfl ?_
  refine zm_sub [1, 0] rfl ?_
  exact k
theorem gX4_fillTables_16 {d : Nat} {Q : Value → zm_S → Prop} {w : zm_S} {a1 : Int32} (kt : (w.1 15 9) ≤ a1 → zm_T zc_H d mX4_fillTables Q 60 [(0, .ref 15)] [] w) (kf : ¬ (w.1 15 9) ≤ a1 → zm_T zc_H d mX4_fillTables Q 24 [(0, .ref 15), (1, .int a1)] [] w) : zm_T zc_H d mX4_fillTables Q 16 [(0, .ref 15), (1, .int a1)] [] w := by
  refine zm_iload_n (x := a1) 1 dX4_fillTables_16 rfl rfl ?_
  refine zm_aload_n (x := 15) 0 dX4_fillTables_17 rfl rfl ?_
  refine zm_getf (v := .int (w.1 15 9)) (j := 9) dX4_fillTables_18 clX4 flX4_79 (Nat.le_of_ble_eq_true rfl) zc_H15 rfl rfl ?_
  refine zm_icmp_ge 60 dX4_fillTables_21 (by decide) (fun h => ?_) (fun h => ?_)
  · refine zm_sub [0] rfl ?_
    exact kt h
  · exact kf h
theorem gX4_fillTables_24 {d : Nat} {Q : Value → zm_S → Prop} {w : zm_S} {a1 : Int32} (hi30 : vp_in (0 : Int32) 128) (kt : ((w.1 15 11) &&& ((1 : Int32) <<< (a1 &&& 31))) = 0 → zm_T zc_H d mX4_fillTables Q 51 [(0, .ref 15), (1, .int a1)] [.long (w.2 18 ((0 : Int32)).toNatClampNeg), .int (0 : Int32), .ref 18] w) (kf : ¬ ((w.1 15 11) &&& ((1 : Int32) <<< (a1 &&& 31))) = 0 → zm_T zc_H d mX4_fillTables Q 42 [(0, .ref 15), (1, .int a1)] [.long (w.2 18 ((0 : Int32)).toNatClampNeg), .int (0 : Int32), .ref 18] w) : zm_T zc_H d mX4_fillTables Q 24 [(0, .ref 15), (1, .int a1)] [] w := by
  refine zm_aload_n (x := 15) 0 dX4_fillTables_24 rfl rfl ?_
  refine zm_getf (v := .ref 18) (j := 2) dX4_fillTables_25 clX4 flX4_18 (Nat.le_of_ble_eq_true rfl) zc_H15 rfl rfl ?_
  refine zm_iconst dX4_fillTables_28 (v := (0 : Int32)) (by decide) ?_
  refine zm_dup2 dX4_fillTables_29 rfl rfl ?_
  refine zm_lald dX4_fillTables_30 zc_H18 hi30 ?_
  refine zm_aload_n (x := 15) 0 dX4_fillTables_31 rfl rfl ?_
  refine zm_getf (v := .int (w.1 15 11)) (j := 11) dX4_fillTables_32 clX4 flX4_88 (Nat.le_of_ble_eq_true rfl) zc_H15 rfl rfl ?_
  refine zm_iconst dX4_fillTables_35 (v := (1 : Int32)) (by decide) ?_
  refine zm_iload_n (x := a1) 1 dX4_fillTables_36 rfl rfl ?_
  refine zm_ishl dX4_fillTables_37 ?_
  refine zm_iand dX4_fillTables_38 ?_
  refine zm_if_eq 51 dX4_fillTables_39 (by decide) (fun h => ?_) (fun h => ?_)
  · exact kt h
  · exact kf h
theorem gX4_fillTables_42 {d : Nat} {Q : Value → zm_S → Prop} {w : zm_S} {a1 : Int32} {s0 : Int64} {s1 : Int32} (hi47 : vp_in a1 7) (k : zm_T zc_H d mX4_fillTables Q 52 [(0, .ref 15), (1, .int a1)] [.long (w.2 16 (a1).toNatClampNeg), .long s0, .int s1, .ref 18] w) : zm_T zc_H d mX4_fillTables Q 42 [(0, .ref 15), (1, .int a1)] [.long s0, .int s1, .ref 18] w := by
  refine zm_aload_n (x := 15) 0 dX4_fillTables_42 rfl rfl ?_
  refine zm_getf (v := .ref 16) (j := 0) dX4_fillTables_43 clX4 flX4_9 (Nat.le_of_ble_eq_true rfl) zc_H15 rfl rfl ?_
  refine zm_iload_n (x := a1) 1 dX4_fillTables_46 rfl rfl ?_
  refine zm_lald dX4_fillTables_47 zc_H16 hi47 ?_
  refine zm_goto 52 dX4_fillTables_48 (by decide) ?_
  exact k
theorem gX4_fillTables_51 {d : Nat} {Q : Value → zm_S → Prop} {w : zm_S} {a1 : Int32} {s0 : Int64} {s1 : Int32} (k : zm_T zc_H d mX4_fillTables Q 52 [(0, .ref 15), (1, .int a1)] [.long (0 : Int64), .long s0, .int s1, .ref 18] w) : zm_T zc_H d mX4_fillTables Q 51 [(0, .ref 15), (1, .int a1)] [.long s0, .int s1, .ref 18] w := by
  refine zm_lconst dX4_fillTables_51 (v := (0 : Int64)) (by decide) ?_
  exact k
theorem gX4_fillTables_52 {d : Nat} {Q : Value → zm_S → Prop} {w : zm_S} {a1 : Int32} {s0 : Int64} {s1 : Int64} {s2 : Int32} (hi53 : vp_in s2 128) (k : zm_T zc_H d mX4_fillTables Q 16 [(0, .ref 15), (1, .int (a1 + (1 : Int32)))] [] (zm_pl w 18 (s2).toNatClampNeg (s1 + s0))) : zm_T zc_H d mX4_fillTables Q 52 [(0, .ref 15), (1, .int a1)] [.long s0, .long s1, .int s2, .ref 18] w := by
  refine zm_ladd dX4_fillTables_52 ?_
  refine zm_last dX4_fillTables_53 zc_H18 hi53 ?_
  refine zm_iinc 1 dX4_fillTables_54 (x := a1) (v := (a1 + (1 : Int32))) rfl rfl (Nat.le_of_ble_eq_true rfl) (ls' := [(1, .int (a1 + (1 : Int32))), (0, .ref 15)]) rfl ?_
  refine zm_goto 16 dX4_fillTables_57 (by decide) ?_
  refine zm_sub [1, 0] rfl ?_
  exact k
theorem gX4_fillTables_60 {d : Nat} {Q : Value → zm_S → Prop} {w : zm_S} (k : zm_T zc_H d mX4_fillTables Q 62 [(0, .ref 15), (1, .int (1 : Int32))] [] w) : zm_T zc_H d mX4_fillTables Q 60 [(0, .ref 15)] [] w := by
  refine zm_iconst dX4_fillTables_60 (v := (1 : Int32)) (by decide) ?_
  refine zm_istore_n dX4_fillTables_61 rfl (Nat.le_of_ble_eq_true rfl) (ls' := [(1, .int (1 : Int32)), (0, .ref 15)]) rfl ?_
  refine zm_sub [1, 0] rfl ?_
  exact k
theorem gX4_fillTables_62 {d : Nat} {Q : Value → zm_S → Prop} {w : zm_S} {a1 : Int32} (kt : (w.1 15 11) < a1 → zm_T zc_H d mX4_fillTables Q 143 [] [] w) (kf : ¬ (w.1 15 11) < a1 → zm_T zc_H d mX4_fillTables Q 70 [(0, .ref 15), (1, .int a1)] [] w) : zm_T zc_H d mX4_fillTables Q 62 [(0, .ref 15), (1, .int a1)] [] w := by
  refine zm_iload_n (x := a1) 1 dX4_fillTables_62 rfl rfl ?_
  refine zm_aload_n (x := 15) 0 dX4_fillTables_63 rfl rfl ?_
  refine zm_getf (v := .int (w.1 15 11)) (j := 11) dX4_fillTables_64 clX4 flX4_88 (Nat.le_of_ble_eq_true rfl) zc_H15 rfl rfl ?_
  refine zm_icmp_gt 143 dX4_fillTables_67 (by decide) (fun h => ?_) (fun h => ?_)
  · refine zm_sub [] rfl ?_
    exact kt h
  · exact kf h
theorem gX4_fillTables_70 {d : Nat} {Q : Value → zm_S → Prop} {w : zm_S} {a1 : Int32} (kt : ¬ (a1 &&& ((w.1 15 11) ^^^ (-1 : Int32))) = 0 → zm_T zc_H d mX4_fillTables Q 137 [(0, .ref 15), (1, .int a1)] [] w) (kf : (a1 &&& ((w.1 15 11) ^^^ (-1 : Int32))) = 0 → zm_T zc_H d mX4_fillTables Q 81 [(0, .ref 15), (1, .int a1)] [] w) : zm_T zc_H d mX4_fillTables Q 70 [(0, .ref 15), (1, .int a1)] [] w := by
  refine zm_iload_n (x := a1) 1 dX4_fillTables_70 rfl rfl ?_
  refine zm_aload_n (x := 15) 0 dX4_fillTables_71 rfl rfl ?_
  refine zm_getf (v := .int (w.1 15 11)) (j := 11) dX4_fillTables_72 clX4 flX4_88 (Nat.le_of_ble_eq_true rfl) zc_H15 rfl rfl ?_
  refine zm_iconst dX4_fillTables_75 (v := (-1 : Int32)) (by decide) ?_
  refine zm_ixor dX4_fillTables_76 ?_
  refine zm_iand dX4_fillTables_77 ?_
  refine zm_if_ne 137 dX4_fillTables_78 (by decide) (fun h => ?_) (fun h => ?_)
  · exact kt h
  · exact kf h
theorem gX4_fillTables_81 {d : Nat} {Q : Value → zm_S → Prop} {w : zm_S} {a1 : Int32} {Q' : Value → zm_S → Prop} (hC : zm_C zc_H d mJ6_numberOfTrailingZeros_0f7a4 [.int a1] w Q') (k : ∀ (r : Int32) (u : zm_S), Q' (.int r) u → zm_T zc_H (d + 1) mX4_fillTables Q 85 [(0, .ref 15), (1, .int a1)] [.int r] u) : zm_T zc_H (d + 1) mX4_fillTables Q 81 [(0, .ref 15), (1, .int a1)] [] w := by
  refine zm_iload_n (x := a1) 1 dX4_fillTables_81 rfl rfl ?_
  refine zm_callSi (as := [.int a1]) (rest := []) dX4_fillTables_82 rfl mtJ6_numberOfTrailingZeros_0f7a4 lkX4_106 rfl (Nat.le_of_ble_eq_true rfl) hC rfl (fun r u hq => ?_)
  exact k r u hq
theorem gX4_fillTables_85 {d : Nat} {Q : Value → zm_S → Prop} {w : zm_S} {a1 : Int32} {s0 : Int32} (hi102 : vp_in (a1 &&& (a1 - (1 : Int32))) 128) (hi108 : vp_in s0 7) (hi115 : vp_in s0 7) (hi117 : vp_in a1 128) (hi128 : vp_in (a1 &&& (a1 - (1 : Int32))) 128) (hi134 : vp_in s0 7) (hi136 : vp_in a1 128) (k : zm_T zc_H d mX4_fillTables Q 137 [(0, .ref 15), (1, .int a1)] [] (zm_pl (zm_pl w 18 (a1).toNatClampNeg (((w.2 18 ((a1 &&& (a1 - (1 : Int32)))).toNatClampNeg) + (w.2 17 (s0).toNatClampNeg)) - (w.2 16 (s0).toNatClampNeg))) 19 (a1).toNatClampNeg ((w.2 19 ((a1 &&& (a1 - (1 : Int32)))).toNatClampNeg) + (w.2 17 (s0).toNatClampNeg)))) : zm_T zc_H d mX4_fillTables Q 85 [(0, .ref 15), (1, .int a1)] [.int s0] w := by
  refine zm_istore_n dX4_fillTables_85 rfl (Nat.le_of_ble_eq_true rfl) (ls' := [(2, .int s0), (0, .ref 15), (1, .int a1)]) rfl ?_
  refine zm_iload_n (x := a1) 2 dX4_fillTables_86 rfl rfl ?_
  refine zm_iload_n (x := a1) 2 dX4_fillTables_87 rfl rfl ?_
  refine zm_iconst dX4_fillTables_88 (v := (1 : Int32)) (by decide) ?_
  refine zm_isub dX4_fillTables_89 ?_
  refine zm_iand dX4_fillTables_90 ?_
  refine zm_istore_n dX4_fillTables_91 rfl (Nat.le_of_ble_eq_true rfl) (ls' := [(3, .int (a1 &&& (a1 - (1 : Int32)))), (2, .int s0), (0, .ref 15), (1, .int a1)]) rfl ?_
  refine zm_aload_n (x := 15) 2 dX4_fillTables_92 rfl rfl ?_
  refine zm_getf (v := .ref 18) (j := 2) dX4_fillTables_93 clX4 flX4_18 (Nat.le_of_ble_eq_true rfl) zc_H15 rfl rfl ?_
  refine zm_iload_n (x := a1) 3 dX4_fillTables_96 rfl rfl ?_
  refine zm_aload_n (x := 15) 2 dX4_fillTables_97 rfl rfl ?_
  refine zm_getf (v := .ref 18) (j := 2) dX4_fillTables_98 clX4 flX4_18 (Nat.le_of_ble_eq_true rfl) zc_H15 rfl rfl ?_
  refine zm_iload_n (x := (a1 &&& (a1 - (1 : Int32)))) 0 dX4_fillTables_101 rfl rfl ?_
  refine zm_lald dX4_fillTables_102 zc_H18 hi102 ?_
  refine zm_aload_n (x := 15) 2 dX4_fillTables_103 rfl rfl ?_
  refine zm_getf (v := .ref 17) (j := 1) dX4_fillTables_104 clX4 flX4_15 (Nat.le_of_ble_eq_true rfl) zc_H15 rfl rfl ?_
  refine zm_iload_n (x := s0) 1 dX4_fillTables_107 rfl rfl ?_
  refine zm_lald dX4_fillTables_108 zc_H17 hi108 ?_
  refine zm_ladd dX4_fillTables_109 ?_
  refine zm_aload_n (x := 15) 2 dX4_fillTables_110 rfl rfl ?_
  refine zm_getf (v := .ref 16) (j := 0) dX4_fillTables_111 clX4 flX4_9 (Nat.le_of_ble_eq_true rfl) zc_H15 rfl rfl ?_
  refine zm_iload_n (x := s0) 1 dX4_fillTables_114 rfl rfl ?_
  refine zm_lald dX4_fillTables_115 zc_H16 hi115 ?_
  refine zm_lsub dX4_fillTables_116 ?_
  refine zm_last dX4_fillTables_117 zc_H18 hi117 ?_
  refine zm_aload_n (x := 15) 2 dX4_fillTables_118 rfl rfl ?_
  refine zm_getf (v := .ref 19) (j := 3) dX4_fillTables_119 clX4 flX4_21 (Nat.le_of_ble_eq_true rfl) zc_H15 rfl rfl ?_
  refine zm_iload_n (x := a1) 3 dX4_fillTables_122 rfl rfl ?_
  refine zm_aload_n (x := 15) 2 dX4_fillTables_123 rfl rfl ?_
  refine zm_getf (v := .ref 19) (j := 3) dX4_fillTables_124 clX4 flX4_21 (Nat.le_of_ble_eq_true rfl) zc_H15 rfl rfl ?_
  refine zm_iload_n (x := (a1 &&& (a1 - (1 : Int32)))) 0 dX4_fillTables_127 rfl rfl ?_
  refine zm_lald dX4_fillTables_128 zc_H19 hi128 ?_
  refine zm_aload_n (x := 15) 2 dX4_fillTables_129 rfl rfl ?_
  refine zm_getf (v := .ref 17) (j := 1) dX4_fillTables_130 clX4 flX4_15 (Nat.le_of_ble_eq_true rfl) zc_H15 rfl rfl ?_
  refine zm_iload_n (x := s0) 1 dX4_fillTables_133 rfl rfl ?_
  refine zm_lald dX4_fillTables_134 zc_H17 hi134 ?_
  refine zm_ladd dX4_fillTables_135 ?_
  refine zm_last dX4_fillTables_136 zc_H19 hi136 ?_
  refine zm_sub [2, 3] rfl ?_
  exact k
theorem gX4_fillTables_137 {d : Nat} {Q : Value → zm_S → Prop} {w : zm_S} {a1 : Int32} (k : zm_T zc_H d mX4_fillTables Q 62 [(0, .ref 15), (1, .int (a1 + (1 : Int32)))] [] w) : zm_T zc_H d mX4_fillTables Q 137 [(0, .ref 15), (1, .int a1)] [] w := by
  refine zm_iinc 1 dX4_fillTables_137 (x := a1) (v := (a1 + (1 : Int32))) rfl rfl (Nat.le_of_ble_eq_true rfl) (ls' := [(1, .int (a1 + (1 : Int32))), (0, .ref 15)]) rfl ?_
  refine zm_goto 62 dX4_fillTables_140 (by decide) ?_
  refine zm_sub [1, 0] rfl ?_
  exact k
theorem gX4_fillTables_143 {d : Nat} {Q : Value → zm_S → Prop} {w : zm_S} (k : Q .null w) : zm_T zc_H d mX4_fillTables Q 143 [] [] w := by
  exact zm_return dX4_fillTables_143 rfl k
theorem gX4_extend_0 {d : Nat} {Q : Value → zm_S → Prop} {w : zm_S} {a1 : Int32} {a2 : Int32} {a3 : Int64} (kt : a1 < (w.1 15 9) → zm_T zc_H d mX4_extend Q 9 [(0, .ref 15), (1, .int a1), (2, .int a2), (3, .long a3)] [] w) (kf : ¬ a1 < (w.1 15 9) → zm_T zc_H d mX4_extend Q 8 [] [] w) : zm_T zc_H d mX4_extend Q 0 [(0, .ref 15), (1, .int a1), (2, .int a2), (3, .long a3)] [] w := by
  refine zm_iload_n (x := a1) 1 dX4_extend_0 rfl rfl ?_
  refine zm_aload_n (x := 15) 0 dX4_extend_1 rfl rfl ?_
  refine zm_getf (v := .int (w.1 15 9)) (j := 9) dX4_extend_2 clX4 flX4_79 (Nat.le_of_ble_eq_true rfl) zc_H15 rfl rfl ?_
  refine zm_icmp_lt 9 dX4_extend_5 (by decide) (fun h => ?_) (fun h => ?_)
  · exact kt h
  · refine zm_sub [] rfl ?_
    exact kf h
theorem gX4_extend_8 {d : Nat} {Q : Value → zm_S → Prop} {w : zm_S} (k : Q .null w) : zm_T zc_H d mX4_extend Q 8 [] [] w := by
  exact zm_return dX4_extend_8 rfl k
theorem gX4_extend_9 {d : Nat} {Q : Value → zm_S → Prop} {w : zm_S} {a1 : Int32} {a2 : Int32} {a3 : Int64} (k : zm_T zc_H d mX4_extend Q 12 [(0, .ref 15), (1, .int a1), (2, .int a2), (3, .long a3), (5, .int (0 : Int32))] [] w) : zm_T zc_H d mX4_extend Q 9 [(0, .ref 15), (1, .int a1), (2, .int a2), (3, .long a3)] [] w := by
  refine zm_iconst dX4_extend_9 (v := (0 : Int32)) (by decide) ?_
  refine zm_istore dX4_extend_10 (Nat.le_of_ble_eq_true rfl) (ls' := [(5, .int (0 : Int32)), (0, .ref 15), (1, .int a1), (2, .int a2), (3, .long a3)]) rfl ?_
  refine zm_sub [1, 2, 3, 4, 0] rfl ?_
  exact k
theorem gX4_extend_12 {d : Nat} {Q : Value → zm_S → Prop} {w : zm_S} {a1 : Int32} {a2 : Int32} {a3 : Int64} {a5 : Int32} (kt : (w.1 15 9) ≤ a5 → zm_T zc_H d mX4_extend Q 131 [] [] w) (kf : ¬ (w.1 15 9) ≤ a5 → zm_T zc_H d mX4_extend Q 21 [(0, .ref 15), (1, .int a1), (2, .int a2), (3, .long a3), (5, .int a5)] [] w) : zm_T zc_H d mX4_extend Q 12 [(0, .ref 15), (1, .int a1), (2, .int a2), (3, .long a3), (5, .int a5)] [] w := by
  refine zm_iload (x := a5) 4 dX4_extend_12 rfl ?_
  refine zm_aload_n (x := 15) 0 dX4_extend_14 rfl rfl ?_
  refine zm_getf (v := .int (w.1 15 9)) (j := 9) dX4_extend_15 clX4 flX4_79 (Nat.le_of_ble_eq_true rfl) zc_H15 rfl rfl ?_
  refine zm_icmp_ge 131 dX4_extend_18 (by decide) (fun h => ?_) (fun h => ?_)
  · refine zm_sub [] rfl ?_
    exact kt h
  · exact kf h
theorem gX4_extend_21 {d : Nat} {Q : Value → zm_S → Prop} {w : zm_S} {a1 : Int32} {a2 : Int32} {a3 : Int64} {a5 : Int32} (kt : ¬ (((w.1 15 11) &&& (a2 ^^^ (-1 : Int32))) &&& ((1 : Int32) <<< (a5 &&& 31))) = 0 → zm_T zc_H d mX4_extend Q 44 [(0, .ref 15), (1, .int a1), (2, .int a2), (3, .long a3), (5, .int a5), (6, .int ((1 : Int32) <<< (a5 &&& 31)))] [] w) (kf : (((w.1 15 11) &&& (a2 ^^^ (-1 : Int32))) &&& ((1 : Int32) <<< (a5 &&& 31))) = 0 → zm_T zc_H d mX4_extend Q 41 [(0, .ref 15), (1, .int a1), (2, .int a2), (3, .long a3), (5, .int a5)] [] w) : zm_T zc_H d mX4_extend Q 21 [(0, .ref 15), (1, .int a1), (2, .int a2), (3, .long a3), (5, .int a5)] [] w := by
  refine zm_iconst dX4_extend_21 (v := (1 : Int32)) (by decide) ?_
  refine zm_iload (x := a5) 4 dX4_extend_22 rfl ?_
  refine zm_ishl dX4_extend_24 ?_
  refine zm_istore dX4_extend_25 (Nat.le_of_ble_eq_true rfl) (ls' := [(6, .int ((1 : Int32) <<< (a5 &&& 31))), (0, .ref 15), (1, .int a1), (2, .int a2), (3, .long a3), (5, .int a5)]) rfl ?_
  refine zm_aload_n (x := 15) 1 dX4_extend_27 rfl rfl ?_
  refine zm_getf (v := .int (w.1 15 11)) (j := 11) dX4_extend_28 clX4 flX4_88 (Nat.le_of_ble_eq_true rfl) zc_H15 rfl rfl ?_
  refine zm_iload_n (x := a2) 3 dX4_extend_31 rfl rfl ?_
  refine zm_iconst dX4_extend_32 (v := (-1 : Int32)) (by decide) ?_
  refine zm_ixor dX4_extend_33 ?_
  refine zm_iand dX4_extend_34 ?_
  refine zm_iload (x := ((1 : Int32) <<< (a5 &&& 31))) 0 dX4_extend_35 rfl ?_
  refine zm_iand dX4_extend_37 ?_
  refine zm_if_ne 44 dX4_extend_38 (by decide) (fun h => ?_) (fun h => ?_)
  · refine zm_sub [1, 2, 3, 4, 5, 0] rfl ?_
    exact kt h
  · refine zm_sub [1, 2, 3, 4, 5] rfl ?_
    exact kf h
theorem gX4_extend_41 {d : Nat} {Q : Value → zm_S → Prop} {w : zm_S} {a1 : Int32} {a2 : Int32} {a3 : Int64} {a5 : Int32} (k : zm_T zc_H d mX4_extend Q 125 [(0, .ref 15), (1, .int a1), (2, .int a2), (3, .long a3), (5, .int a5)] [] w) : zm_T zc_H d mX4_extend Q 41 [(0, .ref 15), (1, .int a1), (2, .int a2), (3, .long a3), (5, .int a5)] [] w := by
  refine zm_goto 125 dX4_extend_41 (by decide) ?_
  exact k
theorem gX4_extend_44 {d : Nat} {Q : Value → zm_S → Prop} {w : zm_S} {a1 : Int32} {a2 : Int32} {a3 : Int64} {a5 : Int32} {a6 : Int32} {Q' : Value → zm_S → Prop} (hi57 : vp_in (a2 ||| a6) 128) (hC : zm_C zc_H d mX4_lesser [.long a3, .long (w.2 18 ((a2 ||| a6)).toNatClampNeg)] w Q') (k : ∀ (r : Int64) (u : zm_S), Q' (.long r) u → zm_T zc_H (d + 1) mX4_extend Q 61 [(0, .ref 15), (1, .int a1), (2, .int a2), (3, .long a3), (5, .int a5), (7, .int (a2 ||| a6))] [.long r] u) : zm_T zc_H (d + 1) mX4_extend Q 44 [(0, .ref 15), (1, .int a1), (2, .int a2), (3, .long a3), (5, .int a5), (6, .int a6)] [] w := by
  refine zm_iload_n (x := a2) 2 dX4_extend_44 rfl rfl ?_
  refine zm_iload (x := a6) 5 dX4_extend_45 rfl ?_
  refine zm_ior dX4_extend_47 ?_
  refine zm_istore dX4_extend_48 (Nat.le_of_ble_eq_true rfl) (ls' := [(7, .int (a2 ||| a6)), (0, .ref 15), (1, .int a1), (2, .int a2), (3, .long a3), (5, .int a5), (6, .int a6)]) rfl ?_
  refine zm_lload_n (x := a3) 4 dX4_extend_50 rfl rfl ?_
  refine zm_aload_n (x := 15) 1 dX4_extend_51 rfl rfl ?_
  refine zm_getf (v := .ref 18) (j := 2) dX4_extend_52 clX4 flX4_18 (Nat.le_of_ble_eq_true rfl) zc_H15 rfl rfl ?_
  refine zm_iload (x := (a2 ||| a6)) 0 dX4_extend_55 rfl ?_
  refine zm_lald dX4_extend_57 zc_H18 hi57 ?_
  refine zm_callSl (as := [.long a3, .long (w.2 18 ((a2 ||| a6)).toNatClampNeg)]) (rest := []) dX4_extend_58 rfl mtX4_lesser lkX4_94 rfl (Nat.le_of_ble_eq_true rfl) hC rfl (fun r u hq => ?_)
  refine zm_sub [1, 2, 3, 4, 5, 0] rfl ?_
  exact k r u hq
theorem gX4_extend_61 {d : Nat} {Q : Value → zm_S → Prop} {w : zm_S} {a1 : Int32} {a2 : Int32} {a3 : Int64} {a5 : Int32} {a7 : Int32} {s0 : Int64} {Q' : Value → zm_S → Prop} (hi72 : vp_in a7 128) (hC : zm_C zc_H d mX4_lesser [.long s0, .long (w.2 19 (a7).toNatClampNeg)] w Q') (k : ∀ (r : Int64) (u : zm_S), Q' (.long r) u → zm_T zc_H (d + 1) mX4_extend Q 76 [(0, .ref 15), (1, .int a1), (2, .int a2), (3, .long a3), (5, .int a5), (7, .int a7), (8, .long s0)] [.long r, .ref 15] u) : zm_T zc_H (d + 1) mX4_extend Q 61 [(0, .ref 15), (1, .int a1), (2, .int a2), (3, .long a3), (5, .int a5), (7, .int a7)] [.long s0] w := by
  refine zm_lstore dX4_extend_61 (Nat.le_of_ble_eq_true rfl) (ls' := [(8, .long s0), (0, .ref 15), (1, .int a1), (2, .int a2), (3, .long a3), (5, .int a5), (7, .int a7)]) rfl ?_
  refine zm_aload_n (x := 15) 1 dX4_extend_63 rfl rfl ?_
  refine zm_lload (x := s0) 0 dX4_extend_64 rfl ?_
  refine zm_aload_n (x := 15) 1 dX4_extend_66 rfl rfl ?_
  refine zm_getf (v := .ref 19) (j := 3) dX4_extend_67 clX4 flX4_21 (Nat.le_of_ble_eq_true rfl) zc_H15 rfl rfl ?_
  refine zm_iload (x := a7) 6 dX4_extend_70 rfl ?_
  refine zm_lald dX4_extend_72 zc_H19 hi72 ?_
  refine zm_callSl (as := [.long s0, .long (w.2 19 (a7).toNatClampNeg)]) (rest := [.ref 15]) dX4_extend_73 rfl mtX4_lesser lkX4_94 rfl (Nat.le_of_ble_eq_true rfl) hC rfl (fun r u hq => ?_)
  refine zm_sub [1, 2, 3, 4, 5, 6, 0] rfl ?_
  exact k r u hq
theorem gX4_extend_76 {d : Nat} {Q : Value → zm_S → Prop} {w : zm_S} {a1 : Int32} {a2 : Int32} {a3 : Int64} {a5 : Int32} {a7 : Int32} {a8 : Int64} {s0 : Int64} {Q' : Value → zm_S → Prop} (hC : zm_C zc_H d mX4_total [.long s0] w Q') (k : ∀ (r : Int32) (u : zm_S), Q' (.int r) u → zm_T zc_H (d + 1) mX4_extend Q 79 [(0, .ref 15), (1, .int a1), (2, .int a2), (3, .long a3), (5, .int a5), (7, .int a7), (8, .long a8)] [.int r, .ref 15] u) : zm_T zc_H (d + 1) mX4_extend Q 76 [(0, .ref 15), (1, .int a1), (2, .int a2), (3, .long a3), (5, .int a5), (7, .int a7), (8, .long a8)] [.long s0, .ref 15] w := by
  refine zm_callSi (as := [.long s0]) (rest := [.ref 15]) dX4_extend_76 rfl mtX4_total lkX4_98 rfl (Nat.le_of_ble_eq_true rfl) hC rfl (fun r u hq => ?_)
  exact k r u hq
theorem gX4_extend_79 {d : Nat} {Q : Value → zm_S → Prop} {w : zm_S} {a1 : Int32} {a2 : Int32} {a3 : Int64} {a5 : Int32} {a7 : Int32} {a8 : Int64} {s0 : Int32} {Q' : Value → zm_S → Prop} (hC : zm_C zc_H d mX4_isHopeless [.ref 15, .int s0] w Q') (k : ∀ (r : Int32) (u : zm_S), Q' (.int r) u → zm_T zc_H (d + 1) mX4_extend Q 82 [(0, .ref 15), (1, .int a1), (2, .int a2), (3, .long a3), (5, .int a5), (7, .int a7), (8, .long a8)] [.int r] u) : zm_T zc_H (d + 1) mX4_extend Q 79 [(0, .ref 15), (1, .int a1), (2, .int a2), (3, .long a3), (5, .int a5), (7, .int a7), (8, .long a8)] [.int s0, .ref 15] w := by
  refine zm_callVz (as := [.int s0]) (rest := []) dX4_extend_79 rfl mtX4_isHopeless lkX4_112 zc_H15 (C := RX4) rfl rfl rfl (Nat.le_of_ble_eq_true rfl) hC rfl (fun r u hq => ?_)
  exact k r u hq
theorem gX4_extend_82 {d : Nat} {Q : Value → zm_S → Prop} {w : zm_S} {a1 : Int32} {a2 : Int32} {a3 : Int64} {a5 : Int32} {a7 : Int32} {a8 : Int64} {s0 : Int32} (kt : ¬ s0 = 0 → zm_T zc_H d mX4_extend Q 125 [(0, .ref 15), (1, .int a1), (2, .int a2), (3, .long a3), (5, .int a5)] [] w) (kf : s0 = 0 → zm_T zc_H d mX4_extend Q 85 [(0, .ref 15), (1, .int a1), (2, .int a2), (3, .long a3), (5, .int a5), (7, .int a7), (8, .long a8)] [] w) : zm_T zc_H d mX4_extend Q 82 [(0, .ref 15), (1, .int a1), (2, .int a2), (3, .long a3), (5, .int a5), (7, .int a7), (8, .long a8)] [.int s0] w := by
  refine zm_if_ne 125 dX4_extend_82 (by decide) (fun h => ?_) (fun h => ?_)
  · refine zm_sub [0, 1, 2, 3, 4] rfl ?_
    exact kt h
  · exact kf h
theorem gX4_extend_85 {d : Nat} {Q : Value → zm_S → Prop} {w : zm_S} {a1 : Int32} {a2 : Int32} {a3 : Int64} {a5 : Int32} {a7 : Int32} {a8 : Int64} (hi92 : vp_in a1 7) (kt : ¬ a7 = (w.1 15 11) → zm_T zc_H d mX4_extend Q 114 [(0, .ref 15), (1, .int a1), (2, .int a2), (3, .long a3), (5, .int a5), (7, .int a7), (8, .long a8)] [] (zm_pi w 20 (a1).toNatClampNeg a5)) (kf : a7 = (w.1 15 11) → zm_T zc_H d mX4_extend Q 102 [(0, .ref 15), (1, .int a1), (2, .int a2), (3, .long a3), (5, .int a5), (8, .long a8)] [] (zm_pi w 20 (a1).toNatClampNeg a5)) : zm_T zc_H d mX4_extend Q 85 [(0, .ref 15), (1, .int a1), (2, .int a2), (3, .long a3), (5, .int a5), (7, .int a7), (8, .long a8)] [] w := by
  refine zm_aload_n (x := 15) 0 dX4_extend_85 rfl rfl ?_
  refine zm_getf (v := .ref 20) (j := 4) dX4_extend_86 clX4 flX4_24 (Nat.le_of_ble_eq_true rfl) zc_H15 rfl rfl ?_
  refine zm_iload_n (x := a1) 1 dX4_extend_89 rfl rfl ?_
  refine zm_iload (x := a5) 4 dX4_extend_90 rfl ?_
  refine zm_iast dX4_extend_92 zc_H20 hi92 ?_
  refine zm_iload (x := a7) 5 dX4_extend_93 rfl ?_
  refine zm_aload_n (x := 15) 0 dX4_extend_95 rfl rfl ?_
  refine zm_getf (v := .int (w.1 15 11)) (j := 11) dX4_extend_96 clX4 flX4_88 (Nat.le_of_ble_eq_true rfl) zc_H15 rfl rfl ?_
  refine zm_icmp_ne 114 dX4_extend_99 (by decide) (fun h => ?_) (fun h => ?_)
  · exact kt h
  · refine zm_sub [0, 1, 2, 3, 4, 6] rfl ?_
    exact kf h
theorem gX4_extend_102 {d : Nat} {Q : Value → zm_S → Prop} {w : zm_S} {a1 : Int32} {a2 : Int32} {a3 : Int64} {a5 : Int32} {a8 : Int64} {Q' : Value → zm_S → Prop} (hC : zm_C zc_H d mX4_total [.long a8] w Q') (k : ∀ (r : Int32) (u : zm_S), Q' (.int r) u → zm_T zc_H (d + 1) mX4_extend Q 108 [(0, .ref 15), (1, .int a1), (2, .int a2), (3, .long a3), (5, .int a5)] [.int r, .ref 15] u) : zm_T zc_H (d + 1) mX4_extend Q 102 [(0, .ref 15), (1, .int a1), (2, .int a2), (3, .long a3), (5, .int a5), (8, .long a8)] [] w := by
  refine zm_aload_n (x := 15) 0 dX4_extend_102 rfl rfl ?_
  refine zm_lload (x := a8) 5 dX4_extend_103 rfl ?_
  refine zm_callSi (as := [.long a8]) (rest := [.ref 15]) dX4_extend_105 rfl mtX4_total lkX4_98 rfl (Nat.le_of_ble_eq_true rfl) hC rfl (fun r u hq => ?_)
  refine zm_sub [0, 1, 2, 3, 4] rfl ?_
  exact k r u hq
theorem gX4_extend_108 {d : Nat} {Q : Value → zm_S → Prop} {w : zm_S} {a1 : Int32} {a2 : Int32} {a3 : Int64} {a5 : Int32} {s0 : Int32} {Q' : Value → zm_S → Prop} (hC : zm_C zc_H d mX4_judge [.ref 15, .int s0] w Q') (k : ∀ (u : zm_S), Q' .null u → zm_T zc_H (d + 1) mX4_extend Q 111 [(0, .ref 15), (1, .int a1), (2, .int a2), (3, .long a3), (5, .int a5)] [] u) : zm_T zc_H (d + 1) mX4_extend Q 108 [(0, .ref 15), (1, .int a1), (2, .int a2), (3, .long a3), (5, .int a5)] [.int s0, .ref 15] w := by
  refine zm_callVv (as := [.int s0]) (rest := []) dX4_extend_108 rfl mtX4_judge lkX4_116 zc_H15 (C := RX4) rfl rfl rfl (Nat.le_of_ble_eq_true rfl) hC rfl (fun u hq => ?_)
  exact k u hq
theorem gX4_extend_111 {d : Nat} {Q : Value → zm_S → Prop} {w : zm_S} {a1 : Int32} {a2 : Int32} {a3 : Int64} {a5 : Int32} (k : zm_T zc_H d mX4_extend Q 125 [(0, .ref 15), (1, .int a1), (2, .int a2), (3, .long a3), (5, .int a5)] [] w) : zm_T zc_H d mX4_extend Q 111 [(0, .ref 15), (1, .int a1), (2, .int a2), (3, .long a3), (5, .int a5)] [] w := by
  refine zm_goto 125 dX4_extend_111 (by decide) ?_
  exact k
theorem gX4_extend_114 {d : Nat} {Q : Value → zm_S → Prop} {w : zm_S} {a1 : Int32} {a2 : Int32} {a3 : Int64} {a5 : Int32} {a7 : Int32} {a8 : Int64} {Q' : Value → zm_S → Prop} (hC : zm_C zc_H d mX4_extend [.ref 15, .int (a1 + (1 : Int32)), .int a7, .long a8] w Q') (k : ∀ (u : zm_S), Q' .null u → zm_T zc_H (d + 1) mX4_extend Q 125 [(0, .ref 15), (1, .int a1), (2, .int a2), (3, .long a3), (5, .int a5)] [] u) : zm_T zc_H (d + 1) mX4_extend Q 114 [(0, .ref 15), (1, .int a1), (2, .int a2), (3, .long a3), (5, .int a5), (7, .int a7), (8, .long a8)] [] w := by
  refine zm_aload_n (x := 15) 0 dX4_extend_114 rfl rfl ?_
  refine zm_iload_n (x := a1) 1 dX4_extend_115 rfl rfl ?_
  refine zm_iconst dX4_extend_116 (v := (1 : Int32)) (by decide) ?_
  refine zm_iadd dX4_extend_117 ?_
  refine zm_iload (x := a7) 5 dX4_extend_118 rfl ?_
  refine zm_lload (x := a8) 6 dX4_extend_120 rfl ?_
  refine zm_callVv (as := [.int (a1 + (1 : Int32)), .int a7, .long a8]) (rest := []) dX4_extend_122 rfl mtX4_extend lkX4_102 zc_H15 (C := RX4) rfl rfl rfl (Nat.le_of_ble_eq_true rfl) hC rfl (fun u hq => ?_)
  refine zm_sub [0, 1, 2, 3, 4] rfl ?_
  exact k u hq
theorem gX4_extend_125 {d : Nat} {Q : Value → zm_S → Prop} {w : zm_S} {a1 : Int32} {a2 : Int32} {a3 : Int64} {a5 : Int32} (k : zm_T zc_H d mX4_extend Q 12 [(0, .ref 15), (1, .int a1), (2, .int a2), (3, .long a3), (5, .int (a5 + (1 : Int32)))] [] w) : zm_T zc_H d mX4_extend Q 125 [(0, .ref 15), (1, .int a1), (2, .int a2), (3, .long a3), (5, .int a5)] [] w := by
  refine zm_iinc 4 dX4_extend_125 (x := a5) (v := (a5 + (1 : Int32))) rfl rfl (Nat.le_of_ble_eq_true rfl) (ls' := [(5, .int (a5 + (1 : Int32))), (0, .ref 15), (1, .int a1), (2, .int a2), (3, .long a3)]) rfl ?_
  refine zm_goto 12 dX4_extend_128 (by decide) ?_
  refine zm_sub [1, 2, 3, 4, 0] rfl ?_
  exact k
theorem gX4_extend_131 {d : Nat} {Q : Value → zm_S → Prop} {w : zm_S} (k : Q .null w) : zm_T zc_H d mX4_extend Q 131 [] [] w := by
  exact zm_return dX4_extend_131 rfl k
theorem gX4_isHopeless_0 {d : Nat} {Q : Value → zm_S → Prop} {w : zm_S} {a1 : Int32} (kt : (w.1 15 8) = 0 → zm_T zc_H d mX4_isHopeless Q 23 [(0, .ref 15), (1, .int a1)] [] w) (kf : ¬ (w.1 15 8) = 0 → zm_T zc_H d mX4_isHopeless Q 7 [(0, .ref 15), (1, .int a1)] [] w) : zm_T zc_H d mX4_isHopeless Q 0 [(0, .ref 15), (1, .int a1)] [] w := by
  refine zm_aload_n (x := 15) 0 dX4_isHopeless_0 rfl rfl ?_
  refine zm_getf (v := .int (w.1 15 8)) (j := 8) dX4_isHopeless_1 clX4 flX4_48 (Nat.le_of_ble_eq_true rfl) zc_H15 rfl rfl ?_
  refine zm_if_eq 23 dX4_isHopeless_4 (by decide) (fun h => ?_) (fun h => ?_)
  · exact kt h
  · exact kf h
theorem gX4_isHopeless_7 {d : Nat} {Q : Value → zm_S → Prop} {w : zm_S} {a1 : Int32} (kt : a1 ≤ (w.1 15 12) → zm_T zc_H d mX4_isHopeless Q 19 [] [] w) (kf : ¬ a1 ≤ (w.1 15 12) → zm_T zc_H d mX4_isHopeless Q 15 [] [] w) : zm_T zc_H d mX4_isHopeless Q 7 [(0, .ref 15), (1, .int a1)] [] w := by
  refine zm_iload_n (x := a1) 1 dX4_isHopeless_7 rfl rfl ?_
  refine zm_aload_n (x := 15) 0 dX4_isHopeless_8 rfl rfl ?_
  refine zm_getf (v := .int (w.1 15 12)) (j := 12) dX4_isHopeless_9 clX4 flX4_59 (Nat.le_of_ble_eq_true rfl) zc_H15 rfl rfl ?_
  refine zm_icmp_le 19 dX4_isHopeless_12 (by decide) (fun h => ?_) (fun h => ?_)
  · refine zm_sub [] rfl ?_
    exact kt h
  · refine zm_sub [] rfl ?_
    exact kf h
theorem gX4_isHopeless_15 {d : Nat} {Q : Value → zm_S → Prop} {w : zm_S} (k : Q (.int (1 : Int32)) w) : zm_T zc_H d mX4_isHopeless Q 15 [] [] w := by
  refine zm_iconst dX4_isHopeless_15 (v := (1 : Int32)) (by decide) ?_
  refine zm_goto 36 dX4_isHopeless_16 (by decide) ?_
  exact zm_zreturn dX4_isHopeless_36 rfl (by decide) k
theorem gX4_isHopeless_19 {d : Nat} {Q : Value → zm_S → Prop} {w : zm_S} (k : Q (.int (0 : Int32)) w) : zm_T zc_H d mX4_isHopeless Q 19 [] [] w := by
  refine zm_iconst dX4_isHopeless_19 (v := (0 : Int32)) (by decide) ?_
  refine zm_goto 36 dX4_isHopeless_20 (by decide) ?_
  exact zm_zreturn dX4_isHopeless_36 rfl (by decide) k
theorem gX4_isHopeless_23 {d : Nat} {Q : Value → zm_S → Prop} {w : zm_S} {a1 : Int32} (kt : a1 < (w.1 15 12) → zm_T zc_H d mX4_isHopeless Q 35 [] [] w) (kf : ¬ a1 < (w.1 15 12) → zm_T zc_H d mX4_isHopeless Q 31 [] [] w) : zm_T zc_H d mX4_isHopeless Q 23 [(0, .ref 15), (1, .int a1)] [] w := by
  refine zm_iload_n (x := a1) 1 dX4_isHopeless_23 rfl rfl ?_
  refine zm_aload_n (x := 15) 0 dX4_isHopeless_24 rfl rfl ?_
  refine zm_getf (v := .int (w.1 15 12)) (j := 12) dX4_isHopeless_25 clX4 flX4_59 (Nat.le_of_ble_eq_true rfl) zc_H15 rfl rfl ?_
  refine zm_icmp_lt 35 dX4_isHopeless_28 (by decide) (fun h => ?_) (fun h => ?_)
  · refine zm_sub [] rfl ?_
    exact kt h
  · refine zm_sub [] rfl ?_
    exact kf h
theorem gX4_isHopeless_31 {d : Nat} {Q : Value → zm_S → Prop} {w : zm_S} (k : Q (.int (1 : Int32)) w) : zm_T zc_H d mX4_isHopeless Q 31 [] [] w := by
  refine zm_iconst dX4_isHopeless_31 (v := (1 : Int32)) (by decide) ?_
  refine zm_goto 36 dX4_isHopeless_32 (by decide) ?_
  exact zm_zreturn dX4_isHopeless_36 rfl (by decide) k
theorem gX4_isHopeless_35 {d : Nat} {Q : Value → zm_S → Prop} {w : zm_S} (k : Q (.int (0 : Int32)) w) : zm_T zc_H d mX4_isHopeless Q 35 [] [] w := by
  refine zm_iconst dX4_isHopeless_35 (v := (0 : Int32)) (by decide) ?_
  exact zm_zreturn dX4_isHopeless_36 rfl (by decide) k
theorem gX4_judge_0 {d : Nat} {Q : Value → zm_S → Prop} {w : zm_S} {a1 : Int32} (kt : a1 < (w.1 15 12) → zm_T zc_H d mX4_judge Q 15 [(0, .ref 15), (1, .int a1)] [] w) (kf : ¬ a1 < (w.1 15 12) → zm_T zc_H d mX4_judge Q 8 [(0, .ref 15), (1, .int a1)] [] w) : zm_T zc_H d mX4_judge Q 0 [(0, .ref 15), (1, .int a1)] [] w := by
  refine zm_iload_n (x := a1) 1 dX4_judge_0 rfl rfl ?_
  refine zm_aload_n (x := 15) 0 dX4_judge_1 rfl rfl ?_
  refine zm_getf (v := .int (w.1 15 12)) (j := 12) dX4_judge_2 clX4 flX4_59 (Nat.le_of_ble_eq_true rfl) zc_H15 rfl rfl ?_
  refine zm_icmp_lt 15 dX4_judge_5 (by decide) (fun h => ?_) (fun h => ?_)
  · exact kt h
  · exact kf h
theorem gX4_judge_8 {d : Nat} {Q : Value → zm_S → Prop} {w : zm_S} {a1 : Int32} (kt : ¬ (w.1 15 13) = 0 → zm_T zc_H d mX4_judge Q 60 [(0, .ref 15)] [] w) (kf : (w.1 15 13) = 0 → zm_T zc_H d mX4_judge Q 15 [(0, .ref 15), (1, .int a1)] [] w) : zm_T zc_H d mX4_judge Q 8 [(0, .ref 15), (1, .int a1)] [] w := by
  refine zm_aload_n (x := 15) 0 dX4_judge_8 rfl rfl ?_
  refine zm_getf (v := .int (w.1 15 13)) (j := 13) dX4_judge_9 clX4 flX4_65 (Nat.le_of_ble_eq_true rfl) zc_H15 rfl rfl ?_
  refine zm_if_ne 60 dX4_judge_12 (by decide) (fun h => ?_) (fun h => ?_)
  · refine zm_sub [0] rfl ?_
    exact kt h
  · exact kf h
theorem gX4_judge_15 {d : Nat} {Q : Value → zm_S → Prop} {w : zm_S} {a1 : Int32} (k : zm_T zc_H d mX4_judge Q 27 [(0, .ref 15), (2, .int (0 : Int32))] [] (zm_pi (zm_pi w 15 12 a1) 15 13 (0 : Int32))) : zm_T zc_H d mX4_judge Q 15 [(0, .ref 15), (1, .int a1)] [] w := by
  refine zm_aload_n (x := 15) 0 dX4_judge_15 rfl rfl ?_
  refine zm_iload_n (x := a1) 1 dX4_judge_16 rfl rfl ?_
  refine zm_putf (j := 12) (ty := .int) dX4_judge_17 clX4 flX4_59 (Nat.le_of_ble_eq_true rfl) zc_H15 rfl rfl (by decide +kernel) rfl rfl ?_
  refine zm_aload_n (x := 15) 0 dX4_judge_20 rfl rfl ?_
  refine zm_iconst dX4_judge_21 (v := (0 : Int32)) (by decide) ?_
  refine zm_putf (j := 13) (ty := .int) dX4_judge_22 clX4 flX4_65 (Nat.le_of_ble_eq_true rfl) zc_H15 rfl rfl (by decide +kernel) rfl rfl ?_
  refine zm_iconst dX4_judge_25 (v := (0 : Int32)) (by decide) ?_
  refine zm_istore_n dX4_judge_26 rfl (Nat.le_of_ble_eq_true rfl) (ls' := [(2, .int (0 : Int32)), (0, .ref 15), (1, .int a1)]) rfl ?_
  refine zm_sub [1, 0] rfl ?_
  exact k
theorem gX4_judge_27 {d : Nat} {Q : Value → zm_S → Prop} {w : zm_S} {a2 : Int32} (kt : (w.1 15 9) ≤ a2 → zm_T zc_H d mX4_judge Q 60 [(0, .ref 15)] [] w) (kf : ¬ (w.1 15 9) ≤ a2 → zm_T zc_H d mX4_judge Q 35 [(0, .ref 15), (2, .int a2)] [] w) : zm_T zc_H d mX4_judge Q 27 [(0, .ref 15), (2, .int a2)] [] w := by
  refine zm_iload_n (x := a2) 1 dX4_judge_27 rfl rfl ?_
  refine zm_aload_n (x := 15) 0 dX4_judge_28 rfl rfl ?_
  refine zm_getf (v := .int (w.1 15 9)) (j := 9) dX4_judge_29 clX4 flX4_79 (Nat.le_of_ble_eq_true rfl) zc_H15 rfl rfl ?_
  refine zm_icmp_ge 60 dX4_judge_32 (by decide) (fun h => ?_) (fun h => ?_)
  · refine zm_sub [0] rfl ?_
    exact kt h
  · exact kf h
theorem gX4_judge_35 {d : Nat} {Q : Value → zm_S → Prop} {w : zm_S} {a2 : Int32} (kt : (w.1 15 8) = 0 → zm_T zc_H d mX4_judge Q 60 [(0, .ref 15)] [] w) (kf : ¬ (w.1 15 8) = 0 → zm_T zc_H d mX4_judge Q 42 [(0, .ref 15), (2, .int a2)] [] w) : zm_T zc_H d mX4_judge Q 35 [(0, .ref 15), (2, .int a2)] [] w := by
  refine zm_aload_n (x := 15) 0 dX4_judge_35 rfl rfl ?_
  refine zm_getf (v := .int (w.1 15 8)) (j := 8) dX4_judge_36 clX4 flX4_48 (Nat.le_of_ble_eq_true rfl) zc_H15 rfl rfl ?_
  refine zm_if_eq 60 dX4_judge_39 (by decide) (fun h => ?_) (fun h => ?_)
  · refine zm_sub [0] rfl ?_
    exact kt h
  · exact kf h
theorem gX4_judge_42 {d : Nat} {Q : Value → zm_S → Prop} {w : zm_S} {a2 : Int32} (hi52 : vp_in a2 7) (hi53 : vp_in a2 7) (k : zm_T zc_H d mX4_judge Q 27 [(0, .ref 15), (2, .int (a2 + (1 : Int32)))] [] (zm_pi w 21 (a2).toNatClampNeg (w.1 20 (a2).toNatClampNeg))) : zm_T zc_H d mX4_judge Q 42 [(0, .ref 15), (2, .int a2)] [] w := by
  refine zm_aload_n (x := 15) 0 dX4_judge_42 rfl rfl ?_
  refine zm_getf (v := .ref 21) (j := 5) dX4_judge_43 clX4 flX4_28 (Nat.le_of_ble_eq_true rfl) zc_H15 rfl rfl ?_
  refine zm_iload_n (x := a2) 1 dX4_judge_46 rfl rfl ?_
  refine zm_aload_n (x := 15) 0 dX4_judge_47 rfl rfl ?_
  refine zm_getf (v := .ref 20) (j := 4) dX4_judge_48 clX4 flX4_24 (Nat.le_of_ble_eq_true rfl) zc_H15 rfl rfl ?_
  refine zm_iload_n (x := a2) 1 dX4_judge_51 rfl rfl ?_
  refine zm_iald dX4_judge_52 zc_H20 hi52 ?_
  refine zm_iast dX4_judge_53 zc_H21 hi53 ?_
  refine zm_iinc 1 dX4_judge_54 (x := a2) (v := (a2 + (1 : Int32))) rfl rfl (Nat.le_of_ble_eq_true rfl) (ls' := [(2, .int (a2 + (1 : Int32))), (0, .ref 15)]) rfl ?_
  refine zm_goto 27 dX4_judge_57 (by decide) ?_
  refine zm_sub [1, 0] rfl ?_
  exact k
theorem gX4_judge_60 {d : Nat} {Q : Value → zm_S → Prop} {w : zm_S} (k : Q .null (zm_pi w 15 13 ((w.1 15 13) + (1 : Int32)))) : zm_T zc_H d mX4_judge Q 60 [(0, .ref 15)] [] w := by
  refine zm_aload_n (x := 15) 0 dX4_judge_60 rfl rfl ?_
  refine zm_dup dX4_judge_61 rfl ?_
  refine zm_getf (v := .int (w.1 15 13)) (j := 13) dX4_judge_62 clX4 flX4_65 (Nat.le_of_ble_eq_true rfl) zc_H15 rfl rfl ?_
  refine zm_iconst dX4_judge_65 (v := (1 : Int32)) (by decide) ?_
  refine zm_iadd dX4_judge_66 ?_
  refine zm_putf (j := 13) (ty := .int) dX4_judge_67 clX4 flX4_65 (Nat.le_of_ble_eq_true rfl) zc_H15 rfl rfl (by decide +kernel) rfl rfl ?_
  exact zm_return dX4_judge_70 rfl k
theorem gX4_lesser_0 {d : Nat} {Q : Value → zm_S → Prop} {w : zm_S} {a0 : Int64} {a2 : Int64} (k : Q (.long ((a2 &&& ((((a0 ||| (150119987579016 : Int64)) - a2) &&& (150119987579016 : Int64)) - (((((a0 ||| (150119987579016 : Int64)) - a2) &&& (150119987579016 : Int64))).toUInt64 >>> (((3 : Int32)).toInt64.toUInt64 &&& Int64.toUInt64 63)).toInt64)) ||| (a0 &&& (((((a0 ||| (150119987579016 : Int64)) - a2) &&& (150119987579016 : Int64)) - (((((a0 ||| (150119987579016 : Int64)) - a2) &&& (150119987579016 : Int64))).toUInt64 >>> (((3 : Int32)).toInt64.toUInt64 &&& Int64.toUInt64 63)).toInt64) ^^^ (-1 : Int64))))) w) : zm_T zc_H d mX4_lesser Q 0 [(0, .long a0), (2, .long a2)] [] w := by
  refine zm_lload_n (x := a0) 0 dX4_lesser_0 rfl rfl ?_
  refine zm_ldc2_w dX4_lesser_1 kcX4_119 ?_
  refine zm_lor dX4_lesser_4 ?_
  refine zm_lload_n (x := a2) 1 dX4_lesser_5 rfl rfl ?_
  refine zm_lsub dX4_lesser_6 ?_
  refine zm_ldc2_w dX4_lesser_7 kcX4_119 ?_
  refine zm_land dX4_lesser_10 ?_
  refine zm_lstore dX4_lesser_11 (Nat.le_of_ble_eq_true rfl) (ls' := [(4, .long (((a0 ||| (150119987579016 : Int64)) - a2) &&& (150119987579016 : Int64))), (0, .long a0), (2, .long a2)]) rfl ?_
  refine zm_lload (x := (((a0 ||| (150119987579016 : Int64)) - a2) &&& (150119987579016 : Int64))) 0 dX4_lesser_13 rfl ?_
  refine zm_lload (x := (((a0 ||| (150119987579016 : Int64)) - a2) &&& (150119987579016 : Int64))) 0 dX4_lesser_15 rfl ?_
  refine zm_iconst dX4_lesser_17 (v := (3 : Int32)) (by decide) ?_
  refine zm_lushr dX4_lesser_18 ?_
  refine zm_lsub dX4_lesser_19 ?_
  refine zm_lstore dX4_lesser_20 (Nat.le_of_ble_eq_true rfl) (ls' := [(6, .long ((((a0 ||| (150119987579016 : Int64)) - a2) &&& (150119987579016 : Int64)) - (((((a0 ||| (150119987579016 : Int64)) - a2) &&& (150119987579016 : Int64))).toUInt64 >>> (((3 : Int32)).toInt64.toUInt64 &&& Int64.toUInt64 63)).toInt64)), (4, .long (((a0 ||| (150119987579016 : Int64)) - a2) &&& (150119987579016 : Int64))), (0, .long a0), (2, .long a2)]) rfl ?_
  refine zm_lload_n (x := a2) 3 dX4_lesser_22 rfl rfl ?_
  refine zm_lload (x := ((((a0 ||| (150119987579016 : Int64)) - a2) &&& (150119987579016 : Int64)) - (((((a0 ||| (150119987579016 : Int64)) - a2) &&& (150119987579016 : Int64))).toUInt64 >>> (((3 : Int32)).toInt64.toUInt64 &&& Int64.toUInt64 63)).toInt64)) 0 dX4_lesser_23 rfl ?_
  refine zm_land dX4_lesser_25 ?_
  refine zm_lload_n (x := a0) 2 dX4_lesser_26 rfl rfl ?_
  refine zm_lload (x := ((((a0 ||| (150119987579016 : Int64)) - a2) &&& (150119987579016 : Int64)) - (((((a0 ||| (150119987579016 : Int64)) - a2) &&& (150119987579016 : Int64))).toUInt64 >>> (((3 : Int32)).toInt64.toUInt64 &&& Int64.toUInt64 63)).toInt64)) 0 dX4_lesser_27 rfl ?_
  refine zm_ldc2_w dX4_lesser_29 kcX4_121 ?_
  refine zm_lxor dX4_lesser_32 ?_
  refine zm_land dX4_lesser_33 ?_
  refine zm_lor dX4_lesser_34 ?_
  exact zm_lreturn dX4_lesser_35 rfl k
theorem gX4_total_0 {d : Nat} {Q : Value → zm_S → Prop} {w : zm_S} {a0 : Int64} (k : Q (.int (((((((a0 &&& (1085102592571150095 : Int64)) + (((a0).toUInt64 >>> (((4 : Int32)).toInt64.toUInt64 &&& Int64.toUInt64 63)).toInt64 &&& (1085102592571150095 : Int64))) * (72340172838076673 : Int64))).toUInt64 >>> (((56 : Int32)).toInt64.toUInt64 &&& Int64.toUInt64 63)).toInt64).toInt32)) w) : zm_T zc_H d mX4_total Q 0 [(0, .long a0)] [] w := by
  refine zm_lload_n (x := a0) 0 dX4_total_0 rfl rfl ?_
  refine zm_ldc2_w dX4_total_1 kcX4_123 ?_
  refine zm_land dX4_total_4 ?_
  refine zm_lload_n (x := a0) 0 dX4_total_5 rfl rfl ?_
  refine zm_iconst dX4_total_6 (v := (4 : Int32)) (by decide) ?_
  refine zm_lushr dX4_total_7 ?_
  refine zm_ldc2_w dX4_total_8 kcX4_123 ?_
  refine zm_land dX4_total_11 ?_
  refine zm_ladd dX4_total_12 ?_
  refine zm_lstore_n dX4_total_13 rfl (Nat.le_of_ble_eq_true rfl) (ls' := [(2, .long ((a0 &&& (1085102592571150095 : Int64)) + (((a0).toUInt64 >>> (((4 : Int32)).toInt64.toUInt64 &&& Int64.toUInt64 63)).toInt64 &&& (1085102592571150095 : Int64)))), (0, .long a0)]) rfl ?_
  refine zm_lload_n (x := ((a0 &&& (1085102592571150095 : Int64)) + (((a0).toUInt64 >>> (((4 : Int32)).toInt64.toUInt64 &&& Int64.toUInt64 63)).toInt64 &&& (1085102592571150095 : Int64)))) 0 dX4_total_14 rfl rfl ?_
  refine zm_ldc2_w dX4_total_15 kcX4_125 ?_
  refine zm_lmul dX4_total_18 ?_
  refine zm_bipush dX4_total_19 (v := (56 : Int32)) (by decide) ?_
  refine zm_lushr dX4_total_21 ?_
  refine zm_l2i dX4_total_22 ?_
  exact zm_ireturn dX4_total_23 rfl k
