theorem gX1_begin_0 {d : Nat} {Q : Value → zm_S → Prop} {w : zm_S} {a2 : Int32} {a3 : Int32} {Q' : Value → zm_S → Prop} (hC : zm_C zc_H d mJ7_fill_53178 [.ref 29, .int (0 : Int32)] (zm_pi w 28 1 (w.1 23 5)) Q') (k : ∀ (u : zm_S), Q' .null u → zm_T zc_H (d + 1) mX1_begin Q 16 [(0, .ref 28), (1, .ref 23), (2, .int a2), (3, .int a3)] [] u) : zm_T zc_H (d + 1) mX1_begin Q 0 [(0, .ref 28), (1, .ref 23), (2, .int a2), (3, .int a3)] [] w := by
  refine zm_aload_n (x := 28) 0 dX1_begin_0 rfl rfl ?_
  refine zm_aload_n (x := 23) 1 dX1_begin_1 rfl rfl ?_
  refine zm_getf (v := .int (w.1 23 5)) (j := 5) dX1_begin_2 clX6 flX1_15 (Nat.le_of_ble_eq_true rfl) zc_H23 rfl rfl ?_
  refine zm_putf (j := 1) (ty := .int) dX1_begin_5 clX1 flX1_21 (Nat.le_of_ble_eq_true rfl) zc_H28 rfl rfl (by decide +kernel) rfl rfl ?_
  refine zm_aload_n (x := 28) 0 dX1_begin_8 rfl rfl ?_
  refine zm_getf (v := .ref 29) (j := 0) dX1_begin_9 clX1 flX1_9 (Nat.le_of_ble_eq_true rfl) zc_H28 rfl rfl ?_
  refine zm_iconst dX1_begin_12 (v := (0 : Int32)) (by decide) ?_
  refine zm_callSv (as := [.ref 29, .int (0 : Int32)]) (rest := []) dX1_begin_13 rfl mtJ7_fill_53178 lkX1_22 rfl (Nat.le_of_ble_eq_true rfl) hC rfl (fun u hq => ?_)
  exact k u hq
theorem gX1_begin_16 {d : Nat} {Q : Value → zm_S → Prop} {w : zm_S} {a2 : Int32} {a3 : Int32} (k : zm_T zc_H d mX1_begin Q 22 [(0, .ref 28), (1, .ref 23), (2, .int a2), (3, .int a3), (4, .int (0 : Int32)), (5, .int (0 : Int32))] [] w) : zm_T zc_H d mX1_begin Q 16 [(0, .ref 28), (1, .ref 23), (2, .int a2), (3, .int a3)] [] w := by
  refine zm_iconst dX1_begin_16 (v := (0 : Int32)) (by decide) ?_
  refine zm_istore dX1_begin_17 (Nat.le_of_ble_eq_true rfl) (ls' := [(4, .int (0 : Int32)), (0, .ref 28), (1, .ref 23), (2, .int a2), (3, .int a3)]) rfl ?_
  refine zm_iconst dX1_begin_19 (v := (0 : Int32)) (by decide) ?_
  refine zm_istore dX1_begin_20 (Nat.le_of_ble_eq_true rfl) (ls' := [(5, .int (0 : Int32)), (4, .int (0 : Int32)), (0, .ref 28), (1, .ref 23), (2, .int a2), (3, .int a3)]) rfl ?_
  refine zm_sub [2, 3, 4, 5, 1, 0] rfl ?_
  exact k
theorem gX1_begin_22 {d : Nat} {Q : Value → zm_S → Prop} {w : zm_S} {a2 : Int32} {a3 : Int32} {a4 : Int32} {a5 : Int32} (kt : (w.1 23 7) ≤ a5 → zm_T zc_H d mX1_begin Q 79 [(0, .ref 28), (4, .int a4)] [] w) (kf : ¬ (w.1 23 7) ≤ a5 → zm_T zc_H d mX1_begin Q 31 [(0, .ref 28), (1, .ref 23), (2, .int a2), (3, .int a3), (4, .int a4), (5, .int a5)] [] w) : zm_T zc_H d mX1_begin Q 22 [(0, .ref 28), (1, .ref 23), (2, .int a2), (3, .int a3), (4, .int a4), (5, .int a5)] [] w := by
  refine zm_iload (x := a5) 5 dX1_begin_22 rfl ?_
  refine zm_aload_n (x := 23) 1 dX1_begin_24 rfl rfl ?_
  refine zm_getf (v := .int (w.1 23 7)) (j := 7) dX1_begin_25 clX6 flX1_28 (Nat.le_of_ble_eq_true rfl) zc_H23 rfl rfl ?_
  refine zm_icmp_ge 79 dX1_begin_28 (by decide) (fun h => ?_) (fun h => ?_)
  · refine zm_sub [0, 4] rfl ?_
    exact kt h
  · exact kf h
theorem gX1_begin_31 {d : Nat} {Q : Value → zm_S → Prop} {w : zm_S} {a2 : Int32} {a3 : Int32} {a4 : Int32} {a5 : Int32} (hi37 : vp_in a5 128) (kt : ¬ ((w.1 26 (a5).toNatClampNeg) &&& a2) = a2 → zm_T zc_H d mX1_begin Q 73 [(0, .ref 28), (1, .ref 23), (2, .int a2), (3, .int a3), (4, .int a4), (5, .int a5)] [] w) (kf : ((w.1 26 (a5).toNatClampNeg) &&& a2) = a2 → zm_T zc_H d mX1_begin Q 48 [(0, .ref 28), (1, .ref 23), (2, .int a2), (3, .int a3), (4, .int a4), (5, .int a5), (6, .int (w.1 26 (a5).toNatClampNeg))] [] w) : zm_T zc_H d mX1_begin Q 31 [(0, .ref 28), (1, .ref 23), (2, .int a2), (3, .int a3), (4, .int a4), (5, .int a5)] [] w := by
  refine zm_aload_n (x := 23) 1 dX1_begin_31 rfl rfl ?_
  refine zm_getf (v := .ref 26) (j := 2) dX1_begin_32 clX6 flX1_31 (Nat.le_of_ble_eq_true rfl) zc_H23 rfl rfl ?_
  refine zm_iload (x := a5) 5 dX1_begin_35 rfl ?_
  refine zm_iald dX1_begin_37 zc_H26 hi37 ?_
  refine zm_istore dX1_begin_38 (Nat.le_of_ble_eq_true rfl) (ls' := [(6, .int (w.1 26 (a5).toNatClampNeg)), (0, .ref 28), (1, .ref 23), (2, .int a2), (3, .int a3), (4, .int a4), (5, .int a5)]) rfl ?_
  refine zm_iload (x := (w.1 26 (a5).toNatClampNeg)) 0 dX1_begin_40 rfl ?_
  refine zm_iload_n (x := a2) 3 dX1_begin_42 rfl rfl ?_
  refine zm_iand dX1_begin_43 ?_
  refine zm_iload_n (x := a2) 3 dX1_begin_44 rfl rfl ?_
  refine zm_icmp_ne 73 dX1_begin_45 (by decide) (fun h => ?_) (fun h => ?_)
  · refine zm_sub [1, 2, 3, 4, 5, 6] rfl ?_
    exact kt h
  · refine zm_sub [1, 2, 3, 4, 5, 6, 0] rfl ?_
    exact kf h
theorem gX1_begin_48 {d : Nat} {Q : Value → zm_S → Prop} {w : zm_S} {a2 : Int32} {a3 : Int32} {a4 : Int32} {a5 : Int32} {a6 : Int32} (kt : ¬ (a6 &&& a3) = 0 → zm_T zc_H d mX1_begin Q 73 [(0, .ref 28), (1, .ref 23), (2, .int a2), (3, .int a3), (4, .int a4), (5, .int a5)] [] w) (kf : (a6 &&& a3) = 0 → zm_T zc_H d mX1_begin Q 55 [(0, .ref 28), (1, .ref 23), (2, .int a2), (3, .int a3), (4, .int a4), (5, .int a5), (6, .int a6)] [] w) : zm_T zc_H d mX1_begin Q 48 [(0, .ref 28), (1, .ref 23), (2, .int a2), (3, .int a3), (4, .int a4), (5, .int a5), (6, .int a6)] [] w := by
  refine zm_iload (x := a6) 6 dX1_begin_48 rfl ?_
  refine zm_iload_n (x := a3) 3 dX1_begin_50 rfl rfl ?_
  refine zm_iand dX1_begin_51 ?_
  refine zm_if_ne 73 dX1_begin_52 (by decide) (fun h => ?_) (fun h => ?_)
  · refine zm_sub [0, 1, 2, 3, 4, 5] rfl ?_
    exact kt h
  · exact kf h
theorem gX1_begin_55 {d : Nat} {Q : Value → zm_S → Prop} {w : zm_S} {a2 : Int32} {a3 : Int32} {a4 : Int32} {a5 : Int32} {a6 : Int32} (kt : (14 : Int32) ≤ a4 → zm_T zc_H d mX1_begin Q 70 [(0, .ref 28), (1, .ref 23), (2, .int a2), (3, .int a3), (4, .int a4), (5, .int a5)] [] w) (kf : ¬ (14 : Int32) ≤ a4 → zm_T zc_H d mX1_begin Q 62 [(0, .ref 28), (1, .ref 23), (2, .int a2), (3, .int a3), (4, .int a4), (5, .int a5), (6, .int a6)] [] w) : zm_T zc_H d mX1_begin Q 55 [(0, .ref 28), (1, .ref 23), (2, .int a2), (3, .int a3), (4, .int a4), (5, .int a5), (6, .int a6)] [] w := by
  refine zm_iload (x := a4) 4 dX1_begin_55 rfl ?_
  refine zm_bipush dX1_begin_57 (v := (14 : Int32)) (by decide) ?_
  refine zm_icmp_ge 70 dX1_begin_59 (by decide) (fun h => ?_) (fun h => ?_)
  · refine zm_sub [0, 1, 2, 3, 4, 5] rfl ?_
    exact kt h
  · exact kf h
theorem gX1_begin_62 {d : Nat} {Q : Value → zm_S → Prop} {w : zm_S} {a2 : Int32} {a3 : Int32} {a4 : Int32} {a5 : Int32} {a6 : Int32} {Q' : Value → zm_S → Prop} (hC : zm_C zc_H d mX1_note [.ref 28, .int a4, .int a6] w Q') (k : ∀ (u : zm_S), Q' .null u → zm_T zc_H (d + 1) mX1_begin Q 70 [(0, .ref 28), (1, .ref 23), (2, .int a2), (3, .int a3), (4, .int a4), (5, .int a5)] [] u) : zm_T zc_H (d + 1) mX1_begin Q 62 [(0, .ref 28), (1, .ref 23), (2, .int a2), (3, .int a3), (4, .int a4), (5, .int a5), (6, .int a6)] [] w := by
  refine zm_aload_n (x := 28) 0 dX1_begin_62 rfl rfl ?_
  refine zm_iload (x := a4) 4 dX1_begin_63 rfl ?_
  refine zm_iload (x := a6) 6 dX1_begin_65 rfl ?_
  refine zm_callVv (as := [.int a4, .int a6]) (rest := []) dX1_begin_67 rfl mtX1_note lkX1_34 zc_H28 (C := RX1) rfl rfl rfl (Nat.le_of_ble_eq_true rfl) hC rfl (fun u hq => ?_)
  refine zm_sub [0, 1, 2, 3, 4, 5] rfl ?_
  exact k u hq
theorem gX1_begin_70 {d : Nat} {Q : Value → zm_S → Prop} {w : zm_S} {a2 : Int32} {a3 : Int32} {a4 : Int32} {a5 : Int32} (k : zm_T zc_H d mX1_begin Q 73 [(0, .ref 28), (1, .ref 23), (2, .int a2), (3, .int a3), (4, .int (a4 + (1 : Int32))), (5, .int a5)] [] w) : zm_T zc_H d mX1_begin Q 70 [(0, .ref 28), (1, .ref 23), (2, .int a2), (3, .int a3), (4, .int a4), (5, .int a5)] [] w := by
  refine zm_iinc 4 dX1_begin_70 (x := a4) (v := (a4 + (1 : Int32))) rfl rfl (Nat.le_of_ble_eq_true rfl) (ls' := [(4, .int (a4 + (1 : Int32))), (0, .ref 28), (1, .ref 23), (2, .int a2), (3, .int a3), (5, .int a5)]) rfl ?_
  refine zm_sub [1, 2, 3, 4, 0, 5] rfl ?_
  exact k
theorem gX1_begin_73 {d : Nat} {Q : Value → zm_S → Prop} {w : zm_S} {a2 : Int32} {a3 : Int32} {a4 : Int32} {a5 : Int32} (k : zm_T zc_H d mX1_begin Q 22 [(0, .ref 28), (1, .ref 23), (2, .int a2), (3, .int a3), (4, .int a4), (5, .int (a5 + (1 : Int32)))] [] w) : zm_T zc_H d mX1_begin Q 73 [(0, .ref 28), (1, .ref 23), (2, .int a2), (3, .int a3), (4, .int a4), (5, .int a5)] [] w := by
  refine zm_iinc 5 dX1_begin_73 (x := a5) (v := (a5 + (1 : Int32))) rfl rfl (Nat.le_of_ble_eq_true rfl) (ls' := [(5, .int (a5 + (1 : Int32))), (0, .ref 28), (1, .ref 23), (2, .int a2), (3, .int a3), (4, .int a4)]) rfl ?_
  refine zm_goto 22 dX1_begin_76 (by decide) ?_
  refine zm_sub [1, 2, 3, 4, 5, 0] rfl ?_
  exact k
theorem gX1_begin_79 {d : Nat} {Q : Value → zm_S → Prop} {w : zm_S} {a4 : Int32} (k : Q (.int a4) (zm_pi w 28 2 (((1 : Int32) <<< ((if (14 : Int32) < a4 then (14 : Int32) else a4) &&& 31)) - (1 : Int32)))) : zm_T zc_H d mX1_begin Q 79 [(0, .ref 28), (4, .int a4)] [] w := by
  refine zm_aload_n (x := 28) 0 dX1_begin_79 rfl rfl ?_
  refine zm_iconst dX1_begin_80 (v := (1 : Int32)) (by decide) ?_
  refine zm_iload (x := a4) 1 dX1_begin_81 rfl ?_
  refine zm_bipush dX1_begin_83 (v := (14 : Int32)) (by decide) ?_
  refine zm_mmin dX1_begin_85 lkX1_38 zm_mmmin (Nat.le_of_ble_eq_true rfl) ?_
  refine zm_ishl dX1_begin_88 ?_
  refine zm_iconst dX1_begin_89 (v := (1 : Int32)) (by decide) ?_
  refine zm_isub dX1_begin_90 ?_
  refine zm_putf (j := 2) (ty := .int) dX1_begin_91 clX1 flX1_44 (Nat.le_of_ble_eq_true rfl) zc_H28 rfl rfl (by decide +kernel) rfl rfl ?_
  refine zm_iload (x := a4) 1 dX1_begin_94 rfl ?_
  exact zm_ireturn dX1_begin_96 rfl k
theorem gX1_note_0 {d : Nat} {Q : Value → zm_S → Prop} {w : zm_S} {a1 : Int32} {a2 : Int32} (k : zm_T zc_H d mX1_note Q 2 [(0, .ref 28), (1, .int a1), (2, .int a2), (3, .int (0 : Int32))] [] w) : zm_T zc_H d mX1_note Q 0 [(0, .ref 28), (1, .int a1), (2, .int a2)] [] w := by
  refine zm_iconst dX1_note_0 (v := (0 : Int32)) (by decide) ?_
  refine zm_istore_n dX1_note_1 rfl (Nat.le_of_ble_eq_true rfl) (ls' := [(3, .int (0 : Int32)), (0, .ref 28), (1, .int a1), (2, .int a2)]) rfl ?_
  refine zm_sub [1, 2, 3, 0] rfl ?_
  exact k
theorem gX1_note_2 {d : Nat} {Q : Value → zm_S → Prop} {w : zm_S} {a1 : Int32} {a2 : Int32} {a3 : Int32} (kt : (w.1 28 1) ≤ a3 → zm_T zc_H d mX1_note Q 32 [] [] w) (kf : ¬ (w.1 28 1) ≤ a3 → zm_T zc_H d mX1_note Q 10 [(0, .ref 28), (1, .int a1), (2, .int a2), (3, .int a3)] [] w) : zm_T zc_H d mX1_note Q 2 [(0, .ref 28), (1, .int a1), (2, .int a2), (3, .int a3)] [] w := by
  refine zm_iload_n (x := a3) 3 dX1_note_2 rfl rfl ?_
  refine zm_aload_n (x := 28) 0 dX1_note_3 rfl rfl ?_
  refine zm_getf (v := .int (w.1 28 1)) (j := 1) dX1_note_4 clX1 flX1_21 (Nat.le_of_ble_eq_true rfl) zc_H28 rfl rfl ?_
  refine zm_icmp_ge 32 dX1_note_7 (by decide) (fun h => ?_) (fun h => ?_)
  · refine zm_sub [] rfl ?_
    exact kt h
  · exact kf h
theorem gX1_note_10 {d : Nat} {Q : Value → zm_S → Prop} {w : zm_S} {a1 : Int32} {a2 : Int32} {a3 : Int32} (hi16 : vp_in a3 7) (hi25 : vp_in a3 7) (k : zm_T zc_H d mX1_note Q 2 [(0, .ref 28), (1, .int a1), (2, .int a2), (3, .int (a3 + (1 : Int32)))] [] (zm_pi w 29 (a3).toNatClampNeg ((w.1 29 (a3).toNatClampNeg) ||| (((a2 >>> (a3 &&& 31)) &&& (1 : Int32)) <<< (a1 &&& 31))))) : zm_T zc_H d mX1_note Q 10 [(0, .ref 28), (1, .int a1), (2, .int a2), (3, .int a3)] [] w := by
  refine zm_aload_n (x := 28) 0 dX1_note_10 rfl rfl ?_
  refine zm_getf (v := .ref 29) (j := 0) dX1_note_11 clX1 flX1_9 (Nat.le_of_ble_eq_true rfl) zc_H28 rfl rfl ?_
  refine zm_iload_n (x := a3) 3 dX1_note_14 rfl rfl ?_
  refine zm_dup2 dX1_note_15 rfl rfl ?_
  refine zm_iald dX1_note_16 zc_H29 hi16 ?_
  refine zm_iload_n (x := a2) 2 dX1_note_17 rfl rfl ?_
  refine zm_iload_n (x := a3) 3 dX1_note_18 rfl rfl ?_
  refine zm_ishr dX1_note_19 ?_
  refine zm_iconst dX1_note_20 (v := (1 : Int32)) (by decide) ?_
  refine zm_iand dX1_note_21 ?_
  refine zm_iload_n (x := a1) 1 dX1_note_22 rfl rfl ?_
  refine zm_ishl dX1_note_23 ?_
  refine zm_ior dX1_note_24 ?_
  refine zm_iast dX1_note_25 zc_H29 hi25 ?_
  refine zm_iinc 3 dX1_note_26 (x := a3) (v := (a3 + (1 : Int32))) rfl rfl (Nat.le_of_ble_eq_true rfl) (ls' := [(3, .int (a3 + (1 : Int32))), (0, .ref 28), (1, .int a1), (2, .int a2)]) rfl ?_
  refine zm_goto 2 dX1_note_29 (by decide) ?_
  refine zm_sub [1, 2, 3, 0] rfl ?_
  exact k
theorem gX1_note_32 {d : Nat} {Q : Value → zm_S → Prop} {w : zm_S} (k : Q .null w) : zm_T zc_H d mX1_note Q 32 [] [] w := by
  exact zm_return dX1_note_32 rfl k
theorem gX1_fewest_0 {d : Nat} {Q : Value → zm_S → Prop} {w : zm_S} (k : zm_T zc_H d mX1_fewest Q 2 [(0, .ref 28), (1, .int (0 : Int32))] [] w) : zm_T zc_H d mX1_fewest Q 0 [(0, .ref 28)] [] w := by
  refine zm_iconst dX1_fewest_0 (v := (0 : Int32)) (by decide) ?_
  refine zm_istore_n dX1_fewest_1 rfl (Nat.le_of_ble_eq_true rfl) (ls' := [(1, .int (0 : Int32)), (0, .ref 28)]) rfl ?_
  refine zm_sub [1, 0] rfl ?_
  exact k
theorem gX1_fewest_2 {d : Nat} {Q : Value → zm_S → Prop} {w : zm_S} {a1 : Int32} (kt : (w.1 28 1) ≤ a1 → zm_T zc_H d mX1_fewest Q 30 [(0, .ref 28)] [] w) (kf : ¬ (w.1 28 1) ≤ a1 → zm_T zc_H d mX1_fewest Q 10 [(0, .ref 28), (1, .int a1)] [] w) : zm_T zc_H d mX1_fewest Q 2 [(0, .ref 28), (1, .int a1)] [] w := by
  refine zm_iload_n (x := a1) 1 dX1_fewest_2 rfl rfl ?_
  refine zm_aload_n (x := 28) 0 dX1_fewest_3 rfl rfl ?_
  refine zm_getf (v := .int (w.1 28 1)) (j := 1) dX1_fewest_4 clX1 flX1_21 (Nat.le_of_ble_eq_true rfl) zc_H28 rfl rfl ?_
  refine zm_icmp_ge 30 dX1_fewest_7 (by decide) (fun h => ?_) (fun h => ?_)
  · refine zm_sub [0] rfl ?_
    exact kt h
  · exact kf h
theorem gX1_fewest_10 {d : Nat} {Q : Value → zm_S → Prop} {w : zm_S} {a1 : Int32} {Q' : Value → zm_S → Prop} (hC : zm_C zc_H d mX1_suffices [.ref 28, .int a1, .int (w.1 28 2)] w Q') (k : ∀ (r : Int32) (u : zm_S), Q' (.int r) u → zm_T zc_H (d + 1) mX1_fewest Q 19 [(0, .ref 28), (1, .int a1)] [.int r] u) : zm_T zc_H (d + 1) mX1_fewest Q 10 [(0, .ref 28), (1, .int a1)] [] w := by
  refine zm_aload_n (x := 28) 0 dX1_fewest_10 rfl rfl ?_
  refine zm_iload_n (x := a1) 1 dX1_fewest_11 rfl rfl ?_
  refine zm_aload_n (x := 28) 0 dX1_fewest_12 rfl rfl ?_
  refine zm_getf (v := .int (w.1 28 2)) (j := 2) dX1_fewest_13 clX1 flX1_44 (Nat.le_of_ble_eq_true rfl) zc_H28 rfl rfl ?_
  refine zm_callVz (as := [.int a1, .int (w.1 28 2)]) (rest := []) dX1_fewest_16 rfl mtX1_suffices lkX1_47 zc_H28 (C := RX1) rfl rfl rfl (Nat.le_of_ble_eq_true rfl) hC rfl (fun r u hq => ?_)
  exact k r u hq
theorem gX1_fewest_19 {d : Nat} {Q : Value → zm_S → Prop} {w : zm_S} {a1 : Int32} {s0 : Int32} (kt : s0 = 0 → zm_T zc_H d mX1_fewest Q 24 [(0, .ref 28), (1, .int a1)] [] w) (kf : ¬ s0 = 0 → zm_T zc_H d mX1_fewest Q 22 [(1, .int a1)] [] w) : zm_T zc_H d mX1_fewest Q 19 [(0, .ref 28), (1, .int a1)] [.int s0] w := by
  refine zm_if_eq 24 dX1_fewest_19 (by decide) (fun h => ?_) (fun h => ?_)
  · exact kt h
  · refine zm_sub [1] rfl ?_
    exact kf h
theorem gX1_fewest_22 {d : Nat} {Q : Value → zm_S → Prop} {w : zm_S} {a1 : Int32} (k : Q (.int a1) w) : zm_T zc_H d mX1_fewest Q 22 [(1, .int a1)] [] w := by
  refine zm_iload_n (x := a1) 0 dX1_fewest_22 rfl rfl ?_
  exact zm_ireturn dX1_fewest_23 rfl k
theorem gX1_fewest_24 {d : Nat} {Q : Value → zm_S → Prop} {w : zm_S} {a1 : Int32} (k : zm_T zc_H d mX1_fewest Q 2 [(0, .ref 28), (1, .int (a1 + (1 : Int32)))] [] w) : zm_T zc_H d mX1_fewest Q 24 [(0, .ref 28), (1, .int a1)] [] w := by
  refine zm_iinc 1 dX1_fewest_24 (x := a1) (v := (a1 + (1 : Int32))) rfl rfl (Nat.le_of_ble_eq_true rfl) (ls' := [(1, .int (a1 + (1 : Int32))), (0, .ref 28)]) rfl ?_
  refine zm_goto 2 dX1_fewest_27 (by decide) ?_
  refine zm_sub [1, 0] rfl ?_
  exact k
theorem gX1_fewest_30 {d : Nat} {Q : Value → zm_S → Prop} {w : zm_S} (k : Q (.int (w.1 28 1)) w) : zm_T zc_H d mX1_fewest Q 30 [(0, .ref 28)] [] w := by
  refine zm_aload_n (x := 28) 0 dX1_fewest_30 rfl rfl ?_
  refine zm_getf (v := .int (w.1 28 1)) (j := 1) dX1_fewest_31 clX1 flX1_21 (Nat.le_of_ble_eq_true rfl) zc_H28 rfl rfl ?_
  exact zm_ireturn dX1_fewest_34 rfl k
theorem gX1_first_0 {d : Nat} {Q : Value → zm_S → Prop} {w : zm_S} {a1 : Int32} (k : zm_T zc_H d mX1_first Q 2 [(0, .ref 28), (1, .int a1), (2, .int (0 : Int32))] [] w) : zm_T zc_H d mX1_first Q 0 [(0, .ref 28), (1, .int a1)] [] w := by
  refine zm_iconst dX1_first_0 (v := (0 : Int32)) (by decide) ?_
  refine zm_istore_n dX1_first_1 rfl (Nat.le_of_ble_eq_true rfl) (ls' := [(2, .int (0 : Int32)), (0, .ref 28), (1, .int a1)]) rfl ?_
  refine zm_sub [1, 2, 0] rfl ?_
  exact k
theorem gX1_first_2 {d : Nat} {Q : Value → zm_S → Prop} {w : zm_S} {a1 : Int32} {a2 : Int32} (kt : (w.1 28 1) ≤ a2 → zm_T zc_H d mX1_first Q 35 [] [] w) (kf : ¬ (w.1 28 1) ≤ a2 → zm_T zc_H d mX1_first Q 10 [(0, .ref 28), (1, .int a1), (2, .int a2)] [] w) : zm_T zc_H d mX1_first Q 2 [(0, .ref 28), (1, .int a1), (2, .int a2)] [] w := by
  refine zm_iload_n (x := a2) 2 dX1_first_2 rfl rfl ?_
  refine zm_aload_n (x := 28) 0 dX1_first_3 rfl rfl ?_
  refine zm_getf (v := .int (w.1 28 1)) (j := 1) dX1_first_4 clX1 flX1_21 (Nat.le_of_ble_eq_true rfl) zc_H28 rfl rfl ?_
  refine zm_icmp_ge 35 dX1_first_7 (by decide) (fun h => ?_) (fun h => ?_)
  · refine zm_sub [] rfl ?_
    exact kt h
  · exact kf h
theorem gX1_first_10 {d : Nat} {Q : Value → zm_S → Prop} {w : zm_S} {a1 : Int32} {a2 : Int32} (kt : a1 ≤ 0 → zm_T zc_H d mX1_first Q 35 [] [] w) (kf : ¬ a1 ≤ 0 → zm_T zc_H d mX1_first Q 14 [(0, .ref 28), (1, .int a1), (2, .int a2)] [] w) : zm_T zc_H d mX1_first Q 10 [(0, .ref 28), (1, .int a1), (2, .int a2)] [] w := by
  refine zm_iload_n (x := a1) 1 dX1_first_10 rfl rfl ?_
  refine zm_if_le 35 dX1_first_11 (by decide) (fun h => ?_) (fun h => ?_)
  · refine zm_sub [] rfl ?_
    exact kt h
  · exact kf h
theorem gX1_first_14 {d : Nat} {Q : Value → zm_S → Prop} {w : zm_S} {a1 : Int32} {a2 : Int32} {Q' : Value → zm_S → Prop} (hC : zm_C zc_H d mX1_splitsWell [.ref 28, .int a2, .int a1, .int (w.1 28 2)] w Q') (k : ∀ (r : Int32) (u : zm_S), Q' (.int r) u → zm_T zc_H (d + 1) mX1_first Q 24 [(0, .ref 28), (1, .int a1), (2, .int a2)] [.int r] u) : zm_T zc_H (d + 1) mX1_first Q 14 [(0, .ref 28), (1, .int a1), (2, .int a2)] [] w := by
  refine zm_aload_n (x := 28) 0 dX1_first_14 rfl rfl ?_
  refine zm_iload_n (x := a2) 2 dX1_first_15 rfl rfl ?_
  refine zm_iload_n (x := a1) 1 dX1_first_16 rfl rfl ?_
  refine zm_aload_n (x := 28) 0 dX1_first_17 rfl rfl ?_
  refine zm_getf (v := .int (w.1 28 2)) (j := 2) dX1_first_18 clX1 flX1_44 (Nat.le_of_ble_eq_true rfl) zc_H28 rfl rfl ?_
  refine zm_callVz (as := [.int a2, .int a1, .int (w.1 28 2)]) (rest := []) dX1_first_21 rfl mtX1_splitsWell lkX1_51 zc_H28 (C := RX1) rfl rfl rfl (Nat.le_of_ble_eq_true rfl) hC rfl (fun r u hq => ?_)
  exact k r u hq
theorem gX1_first_24 {d : Nat} {Q : Value → zm_S → Prop} {w : zm_S} {a1 : Int32} {a2 : Int32} {s0 : Int32} (kt : s0 = 0 → zm_T zc_H d mX1_first Q 29 [(0, .ref 28), (1, .int a1), (2, .int a2)] [] w) (kf : ¬ s0 = 0 → zm_T zc_H d mX1_first Q 27 [(2, .int a2)] [] w) : zm_T zc_H d mX1_first Q 24 [(0, .ref 28), (1, .int a1), (2, .int a2)] [.int s0] w := by
  refine zm_if_eq 29 dX1_first_24 (by decide) (fun h => ?_) (fun h => ?_)
  · exact kt h
  · refine zm_sub [2] rfl ?_
    exact kf h
theorem gX1_first_27 {d : Nat} {Q : Value → zm_S → Prop} {w : zm_S} {a2 : Int32} (k : Q (.int a2) w) : zm_T zc_H d mX1_first Q 27 [(2, .int a2)] [] w := by
  refine zm_iload_n (x := a2) 0 dX1_first_27 rfl rfl ?_
  exact zm_ireturn dX1_first_28 rfl k
theorem gX1_first_29 {d : Nat} {Q : Value → zm_S → Prop} {w : zm_S} {a1 : Int32} {a2 : Int32} (k : zm_T zc_H d mX1_first Q 2 [(0, .ref 28), (1, .int a1), (2, .int (a2 + (1 : Int32)))] [] w) : zm_T zc_H d mX1_first Q 29 [(0, .ref 28), (1, .int a1), (2, .int a2)] [] w := by
  refine zm_iinc 2 dX1_first_29 (x := a2) (v := (a2 + (1 : Int32))) rfl rfl (Nat.le_of_ble_eq_true rfl) (ls' := [(2, .int (a2 + (1 : Int32))), (0, .ref 28), (1, .int a1)]) rfl ?_
  refine zm_goto 2 dX1_first_32 (by decide) ?_
  refine zm_sub [1, 2, 0] rfl ?_
  exact k
theorem gX1_first_35 {d : Nat} {Q : Value → zm_S → Prop} {w : zm_S} (k : Q (.int (-1 : Int32)) w) : zm_T zc_H d mX1_first Q 35 [] [] w := by
  refine zm_iconst dX1_first_35 (v := (-1 : Int32)) (by decide) ?_
  exact zm_ireturn dX1_first_36 rfl k
theorem gX1_suffices_0 {d : Nat} {Q : Value → zm_S → Prop} {w : zm_S} {a1 : Int32} {a2 : Int32} {Q' : Value → zm_S → Prop} (hC : zm_C zc_H d mJ6_bitCount_0f7a4 [.int a2] w Q') (k : ∀ (r : Int32) (u : zm_S), Q' (.int r) u → zm_T zc_H (d + 1) mX1_suffices Q 4 [(0, .ref 28), (1, .int a1), (2, .int a2)] [.int r] u) : zm_T zc_H (d + 1) mX1_suffices Q 0 [(0, .ref 28), (1, .int a1), (2, .int a2)] [] w := by
  refine zm_iload_n (x := a2) 2 dX1_suffices_0 rfl rfl ?_
  refine zm_callSi (as := [.int a2]) (rest := []) dX1_suffices_1 rfl mtJ6_bitCount_0f7a4 lkX1_55 rfl (Nat.le_of_ble_eq_true rfl) hC rfl (fun r u hq => ?_)
  exact k r u hq
theorem gX1_suffices_4 {d : Nat} {Q : Value → zm_S → Prop} {w : zm_S} {a1 : Int32} {a2 : Int32} {s0 : Int32} (kt : (1 : Int32) < s0 → zm_T zc_H d mX1_suffices Q 12 [(0, .ref 28), (1, .int a1), (2, .int a2), (3, .int s0)] [] w) (kf : ¬ (1 : Int32) < s0 → zm_T zc_H d mX1_suffices Q 10 [] [] w) : zm_T zc_H d mX1_suffices Q 4 [(0, .ref 28), (1, .int a1), (2, .int a2)] [.int s0] w := by
  refine zm_istore_n dX1_suffices_4 rfl (Nat.le_of_ble_eq_true rfl) (ls' := [(3, .int s0), (0, .ref 28), (1, .int a1), (2, .int a2)]) rfl ?_
  refine zm_iload_n (x := s0) 0 dX1_suffices_5 rfl rfl ?_
  refine zm_iconst dX1_suffices_6 (v := (1 : Int32)) (by decide) ?_
  refine zm_icmp_gt 12 dX1_suffices_7 (by decide) (fun h => ?_) (fun h => ?_)
  · refine zm_sub [1, 2, 3, 0] rfl ?_
    exact kt h
  · refine zm_sub [] rfl ?_
    exact kf h
theorem gX1_suffices_10 {d : Nat} {Q : Value → zm_S → Prop} {w : zm_S} (k : Q (.int (1 : Int32)) w) : zm_T zc_H d mX1_suffices Q 10 [] [] w := by
  refine zm_iconst dX1_suffices_10 (v := (1 : Int32)) (by decide) ?_
  exact zm_zreturn dX1_suffices_11 rfl (by decide) k
theorem gX1_suffices_12 {d : Nat} {Q : Value → zm_S → Prop} {w : zm_S} {a1 : Int32} {a2 : Int32} {a3 : Int32} (kt : a1 ≤ 0 → zm_T zc_H d mX1_suffices Q 23 [] [] w) (kf : ¬ a1 ≤ 0 → zm_T zc_H d mX1_suffices Q 16 [(0, .ref 28), (1, .int a1), (2, .int a2), (3, .int a3)] [] w) : zm_T zc_H d mX1_suffices Q 12 [(0, .ref 28), (1, .int a1), (2, .int a2), (3, .int a3)] [] w := by
  refine zm_iload_n (x := a1) 1 dX1_suffices_12 rfl rfl ?_
  refine zm_if_le 23 dX1_suffices_13 (by decide) (fun h => ?_) (fun h => ?_)
  · refine zm_sub [] rfl ?_
    exact kt h
  · exact kf h
theorem gX1_suffices_16 {d : Nat} {Q : Value → zm_S → Prop} {w : zm_S} {a1 : Int32} {a2 : Int32} {a3 : Int32} (kt : a3 ≤ ((1 : Int32) <<< (a1 &&& 31)) → zm_T zc_H d mX1_suffices Q 25 [(0, .ref 28), (1, .int a1), (2, .int a2)] [] w) (kf : ¬ a3 ≤ ((1 : Int32) <<< (a1 &&& 31)) → zm_T zc_H d mX1_suffices Q 23 [] [] w) : zm_T zc_H d mX1_suffices Q 16 [(0, .ref 28), (1, .int a1), (2, .int a2), (3, .int a3)] [] w := by
  refine zm_iload_n (x := a3) 3 dX1_suffices_16 rfl rfl ?_
  refine zm_iconst dX1_suffices_17 (v := (1 : Int32)) (by decide) ?_
  refine zm_iload_n (x := a1) 1 dX1_suffices_18 rfl rfl ?_
  refine zm_ishl dX1_suffices_19 ?_
  refine zm_icmp_le 25 dX1_suffices_20 (by decide) (fun h => ?_) (fun h => ?_)
  · refine zm_sub [0, 1, 2] rfl ?_
    exact kt h
  · refine zm_sub [] rfl ?_
    exact kf h
theorem gX1_suffices_23 {d : Nat} {Q : Value → zm_S → Prop} {w : zm_S} (k : Q (.int (0 : Int32)) w) : zm_T zc_H d mX1_suffices Q 23 [] [] w := by
  refine zm_iconst dX1_suffices_23 (v := (0 : Int32)) (by decide) ?_
  exact zm_zreturn dX1_suffices_24 rfl (by decide) k
theorem gX1_suffices_25 {d : Nat} {Q : Value → zm_S → Prop} {w : zm_S} {a1 : Int32} {a2 : Int32} (k : zm_T zc_H d mX1_suffices Q 28 [(0, .ref 28), (1, .int a1), (2, .int a2), (4, .int (0 : Int32))] [] w) : zm_T zc_H d mX1_suffices Q 25 [(0, .ref 28), (1, .int a1), (2, .int a2)] [] w := by
  refine zm_iconst dX1_suffices_25 (v := (0 : Int32)) (by decide) ?_
  refine zm_istore dX1_suffices_26 (Nat.le_of_ble_eq_true rfl) (ls' := [(4, .int (0 : Int32)), (0, .ref 28), (1, .int a1), (2, .int a2)]) rfl ?_
  refine zm_sub [1, 2, 3, 0] rfl ?_
  exact k
theorem gX1_suffices_28 {d : Nat} {Q : Value → zm_S → Prop} {w : zm_S} {a1 : Int32} {a2 : Int32} {a4 : Int32} (kt : (w.1 28 1) ≤ a4 → zm_T zc_H d mX1_suffices Q 56 [] [] w) (kf : ¬ (w.1 28 1) ≤ a4 → zm_T zc_H d mX1_suffices Q 37 [(0, .ref 28), (1, .int a1), (2, .int a2), (4, .int a4)] [] w) : zm_T zc_H d mX1_suffices Q 28 [(0, .ref 28), (1, .int a1), (2, .int a2), (4, .int a4)] [] w := by
  refine zm_iload (x := a4) 3 dX1_suffices_28 rfl ?_
  refine zm_aload_n (x := 28) 0 dX1_suffices_30 rfl rfl ?_
  refine zm_getf (v := .int (w.1 28 1)) (j := 1) dX1_suffices_31 clX1 flX1_21 (Nat.le_of_ble_eq_true rfl) zc_H28 rfl rfl ?_
  refine zm_icmp_ge 56 dX1_suffices_34 (by decide) (fun h => ?_) (fun h => ?_)
  · refine zm_sub [] rfl ?_
    exact kt h
  · exact kf h
theorem gX1_suffices_37 {d : Nat} {Q : Value → zm_S → Prop} {w : zm_S} {a1 : Int32} {a2 : Int32} {a4 : Int32} {Q' : Value → zm_S → Prop} (hC : zm_C zc_H d mX1_splitsWell [.ref 28, .int a4, .int a1, .int a2] w Q') (k : ∀ (r : Int32) (u : zm_S), Q' (.int r) u → zm_T zc_H (d + 1) mX1_suffices Q 45 [(0, .ref 28), (1, .int a1), (2, .int a2), (4, .int a4)] [.int r] u) : zm_T zc_H (d + 1) mX1_suffices Q 37 [(0, .ref 28), (1, .int a1), (2, .int a2), (4, .int a4)] [] w := by
  refine zm_aload_n (x := 28) 0 dX1_suffices_37 rfl rfl ?_
  refine zm_iload (x := a4) 3 dX1_suffices_38 rfl ?_
  refine zm_iload_n (x := a1) 1 dX1_suffices_40 rfl rfl ?_
  refine zm_iload_n (x := a2) 2 dX1_suffices_41 rfl rfl ?_
  refine zm_callVz (as := [.int a4, .int a1, .int a2]) (rest := []) dX1_suffices_42 rfl mtX1_splitsWell lkX1_51 zc_H28 (C := RX1) rfl rfl rfl (Nat.le_of_ble_eq_true rfl) hC rfl (fun r u hq => ?_)
  exact k r u hq
theorem gX1_suffices_45 {d : Nat} {Q : Value → zm_S → Prop} {w : zm_S} {a1 : Int32} {a2 : Int32} {a4 : Int32} {s0 : Int32} (kt : s0 = 0 → zm_T zc_H d mX1_suffices Q 50 [(0, .ref 28), (1, .int a1), (2, .int a2), (4, .int a4)] [] w) (kf : ¬ s0 = 0 → zm_T zc_H d mX1_suffices Q 48 [] [] w) : zm_T zc_H d mX1_suffices Q 45 [(0, .ref 28), (1, .int a1), (2, .int a2), (4, .int a4)] [.int s0] w := by
  refine zm_if_eq 50 dX1_suffices_45 (by decide) (fun h => ?_) (fun h => ?_)
  · exact kt h
  · refine zm_sub [] rfl ?_
    exact kf h
theorem gX1_suffices_48 {d : Nat} {Q : Value → zm_S → Prop} {w : zm_S} (k : Q (.int (1 : Int32)) w) : zm_T zc_H d mX1_suffices Q 48 [] [] w := by
  refine zm_iconst dX1_suffices_48 (v := (1 : Int32)) (by decide) ?_
  exact zm_zreturn dX1_suffices_49 rfl (by decide) k
theorem gX1_suffices_50 {d : Nat} {Q : Value → zm_S → Prop} {w : zm_S} {a1 : Int32} {a2 : Int32} {a4 : Int32} (k : zm_T zc_H d mX1_suffices Q 28 [(0, .ref 28), (1, .int a1), (2, .int a2), (4, .int (a4 + (1 : Int32)))] [] w) : zm_T zc_H d mX1_suffices Q 50 [(0, .ref 28), (1, .int a1), (2, .int a2), (4, .int a4)] [] w := by
  refine zm_iinc 3 dX1_suffices_50 (x := a4) (v := (a4 + (1 : Int32))) rfl rfl (Nat.le_of_ble_eq_true rfl) (ls' := [(4, .int (a4 + (1 : Int32))), (0, .ref 28), (1, .int a1), (2, .int a2)]) rfl ?_
  refine zm_goto 28 dX1_suffices_53 (by decide) ?_
  refine zm_sub [1, 2, 3, 0] rfl ?_
  exact k
theorem gX1_suffices_56 {d : Nat} {Q : Value → zm_S → Prop} {w : zm_S} (k : Q (.int (0 : Int32)) w) : zm_T zc_H d mX1_suffices Q 56 [] [] w := by
  refine zm_iconst dX1_suffices_56 (v := (0 : Int32)) (by decide) ?_
  exact zm_zreturn dX1_suffices_57 rfl (by decide) k
theorem gX1_splitsWell_0 {d : Nat} {Q : Value → zm_S → Prop} {w : zm_S} {a1 : Int32} {a2 : Int32} {a3 : Int32} (hi6 : vp_in a1 7) (hi16 : vp_in a1 7) (kt : (a3 &&& (w.1 29 (a1).toNatClampNeg)) = 0 → zm_T zc_H d mX1_splitsWell Q 60 [] [] w) (kf : ¬ (a3 &&& (w.1 29 (a1).toNatClampNeg)) = 0 → zm_T zc_H d mX1_splitsWell Q 27 [(0, .ref 28), (2, .int a2), (4, .int (a3 &&& (w.1 29 (a1).toNatClampNeg))), (5, .int (a3 &&& ((w.1 29 (a1).toNatClampNeg) ^^^ (-1 : Int32))))] [] w) : zm_T zc_H d mX1_splitsWell Q 0 [(0, .ref 28), (1, .int a1), (2, .int a2), (3, .int a3)] [] w := by
  refine zm_iload_n (x := a3) 3 dX1_splitsWell_0 rfl rfl ?_
  refine zm_aload_n (x := 28) 0 dX1_splitsWell_1 rfl rfl ?_
  refine zm_getf (v := .ref 29) (j := 0) dX1_splitsWell_2 clX1 flX1_9 (Nat.le_of_ble_eq_true rfl) zc_H28 rfl rfl ?_
  refine zm_iload_n (x := a1) 1 dX1_splitsWell_5 rfl rfl ?_
  refine zm_iald dX1_splitsWell_6 zc_H29 hi6 ?_
  refine zm_iand dX1_splitsWell_7 ?_
  refine zm_istore dX1_splitsWell_8 (Nat.le_of_ble_eq_true rfl) (ls' := [(4, .int (a3 &&& (w.1 29 (a1).toNatClampNeg))), (0, .ref 28), (1, .int a1), (2, .int a2), (3, .int a3)]) rfl ?_
  refine zm_iload_n (x := a3) 4 dX1_splitsWell_10 rfl rfl ?_
  refine zm_aload_n (x := 28) 1 dX1_splitsWell_11 rfl rfl ?_
  refine zm_getf (v := .ref 29) (j := 0) dX1_splitsWell_12 clX1 flX1_9 (Nat.le_of_ble_eq_true rfl) zc_H28 rfl rfl ?_
  refine zm_iload_n (x := a1) 2 dX1_splitsWell_15 rfl rfl ?_
  refine zm_iald dX1_splitsWell_16 zc_H29 hi16 ?_
  refine zm_iconst dX1_splitsWell_17 (v := (-1 : Int32)) (by decide) ?_
  refine zm_ixor dX1_splitsWell_18 ?_
  refine zm_iand dX1_splitsWell_19 ?_
  refine zm_istore dX1_splitsWell_20 (Nat.le_of_ble_eq_true rfl) (ls' := [(5, .int (a3 &&& ((w.1 29 (a1).toNatClampNeg) ^^^ (-1 : Int32)))), (4, .int (a3 &&& (w.1 29 (a1).toNatClampNeg))), (0, .ref 28), (1, .int a1), (2, .int a2), (3, .int a3)]) rfl ?_
  refine zm_iload (x := (a3 &&& (w.1 29 (a1).toNatClampNeg))) 1 dX1_splitsWell_22 rfl ?_
  refine zm_if_eq 60 dX1_splitsWell_24 (by decide) (fun h => ?_) (fun h => ?_)
  · refine zm_sub [] rfl ?_
    exact kt h
  · refine zm_sub [2, 4, 1, 0] rfl ?_
    exact kf h
theorem gX1_splitsWell_27 {d : Nat} {Q : Value → zm_S → Prop} {w : zm_S} {a2 : Int32} {a4 : Int32} {a5 : Int32} (kt : a5 = 0 → zm_T zc_H d mX1_splitsWell Q 60 [] [] w) (kf : ¬ a5 = 0 → zm_T zc_H d mX1_splitsWell Q 32 [(0, .ref 28), (2, .int a2), (4, .int a4), (5, .int a5)] [] w) : zm_T zc_H d mX1_splitsWell Q 27 [(0, .ref 28), (2, .int a2), (4, .int a4), (5, .int a5)] [] w := by
  refine zm_iload (x := a5) 3 dX1_splitsWell_27 rfl ?_
  refine zm_if_eq 60 dX1_splitsWell_29 (by decide) (fun h => ?_) (fun h => ?_)
  · refine zm_sub [] rfl ?_
    exact kt h
  · exact kf h
theorem gX1_splitsWell_32 {d : Nat} {Q : Value → zm_S → Prop} {w : zm_S} {a2 : Int32} {a4 : Int32} {a5 : Int32} {Q' : Value → zm_S → Prop} (hC : zm_C zc_H d mX1_suffices [.ref 28, .int (a2 - (1 : Int32)), .int a4] w Q') (k : ∀ (r : Int32) (u : zm_S), Q' (.int r) u → zm_T zc_H (d + 1) mX1_splitsWell Q 41 [(0, .ref 28), (2, .int a2), (5, .int a5)] [.int r] u) : zm_T zc_H (d + 1) mX1_splitsWell Q 32 [(0, .ref 28), (2, .int a2), (4, .int a4), (5, .int a5)] [] w := by
  refine zm_aload_n (x := 28) 0 dX1_splitsWell_32 rfl rfl ?_
  refine zm_iload_n (x := a2) 1 dX1_splitsWell_33 rfl rfl ?_
  refine zm_iconst dX1_splitsWell_34 (v := (1 : Int32)) (by decide) ?_
  refine zm_isub dX1_splitsWell_35 ?_
  refine zm_iload (x := a4) 2 dX1_splitsWell_36 rfl ?_
  refine zm_callVz (as := [.int (a2 - (1 : Int32)), .int a4]) (rest := []) dX1_splitsWell_38 rfl mtX1_suffices lkX1_47 zc_H28 (C := RX1) rfl rfl rfl (Nat.le_of_ble_eq_true rfl) hC rfl (fun r u hq => ?_)
  refine zm_sub [0, 1, 3] rfl ?_
  exact k r u hq
theorem gX1_splitsWell_41 {d : Nat} {Q : Value → zm_S → Prop} {w : zm_S} {a2 : Int32} {a5 : Int32} {s0 : Int32} (kt : s0 = 0 → zm_T zc_H d mX1_splitsWell Q 60 [] [] w) (kf : ¬ s0 = 0 → zm_T zc_H d mX1_splitsWell Q 44 [(0, .ref 28), (2, .int a2), (5, .int a5)] [] w) : zm_T zc_H d mX1_splitsWell Q 41 [(0, .ref 28), (2, .int a2), (5, .int a5)] [.int s0] w := by
  refine zm_if_eq 60 dX1_splitsWell_41 (by decide) (fun h => ?_) (fun h => ?_)
  · refine zm_sub [] rfl ?_
    exact kt h
  · exact kf h
theorem gX1_splitsWell_44 {d : Nat} {Q : Value → zm_S → Prop} {w : zm_S} {a2 : Int32} {a5 : Int32} {Q' : Value → zm_S → Prop} (hC : zm_C zc_H d mX1_suffices [.ref 28, .int (a2 - (1 : Int32)), .int a5] w Q') (k : ∀ (r : Int32) (u : zm_S), Q' (.int r) u → zm_T zc_H (d + 1) mX1_splitsWell Q 53 [] [.int r] u) : zm_T zc_H (d + 1) mX1_splitsWell Q 44 [(0, .ref 28), (2, .int a2), (5, .int a5)] [] w := by
  refine zm_aload_n (x := 28) 0 dX1_splitsWell_44 rfl rfl ?_
  refine zm_iload_n (x := a2) 1 dX1_splitsWell_45 rfl rfl ?_
  refine zm_iconst dX1_splitsWell_46 (v := (1 : Int32)) (by decide) ?_
  refine zm_isub dX1_splitsWell_47 ?_
  refine zm_iload (x := a5) 2 dX1_splitsWell_48 rfl ?_
  refine zm_callVz (as := [.int (a2 - (1 : Int32)), .int a5]) (rest := []) dX1_splitsWell_50 rfl mtX1_suffices lkX1_47 zc_H28 (C := RX1) rfl rfl rfl (Nat.le_of_ble_eq_true rfl) hC rfl (fun r u hq => ?_)
  refine zm_sub [] rfl ?_
  exact k r u hq
theorem gX1_splitsWell_53 {d : Nat} {Q : Value → zm_S → Prop} {w : zm_S} {s0 : Int32} (kt : s0 = 0 → zm_T zc_H d mX1_splitsWell Q 60 [] [] w) (kf : ¬ s0 = 0 → zm_T zc_H d mX1_splitsWell Q 56 [] [] w) : zm_T zc_H d mX1_splitsWell Q 53 [] [.int s0] w := by
  refine zm_if_eq 60 dX1_splitsWell_53 (by decide) (fun h => ?_) (fun h => ?_)
  · exact kt h
  · exact kf h
theorem gX1_splitsWell_56 {d : Nat} {Q : Value → zm_S → Prop} {w : zm_S} (k : Q (.int (1 : Int32)) w) : zm_T zc_H d mX1_splitsWell Q 56 [] [] w := by
  refine zm_iconst dX1_splitsWell_56 (v := (1 : Int32)) (by decide) ?_
  refine zm_goto 61 dX1_splitsWell_57 (by decide) ?_
  exact zm_zreturn dX1_splitsWell_61 rfl (by decide) k
theorem gX1_splitsWell_60 {d : Nat} {Q : Value → zm_S → Prop} {w : zm_S} (k : Q (.int (0 : Int32)) w) : zm_T zc_H d mX1_splitsWell Q 60 [] [] w := by
  refine zm_iconst dX1_splitsWell_60 (v := (0 : Int32)) (by decide) ?_
  exact zm_zreturn dX1_splitsWell_61 rfl (by decide) k
