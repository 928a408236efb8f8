theorem gX8_fault_0 {d : Nat} {Q : Value → zm_S → Prop} {w : zm_S} {Q' : Value → zm_S → Prop} (hC : zm_C zd_H d mX8_reads [.ref 0] w Q') (k : ∀ (r : Int32) (u : zm_S), Q' (.int r) u → zm_T zd_H (d + 1) mX8_fault Q 4 [] [.int r] u) : zm_T zd_H (d + 1) mX8_fault Q 0 [(0, .ref 0)] [] w := by
  refine zm_aload_n (x := 0) 0 dX8_fault_0 rfl rfl ?_
  refine zm_callVi (as := []) (rest := []) dX8_fault_1 rfl mtX8_reads lkX8_170 zd_H0 (C := RX8) rfl rfl rfl (Nat.le_of_ble_eq_true rfl) hC rfl (fun r u hq => ?_)
  refine zm_sub [] rfl ?_
  exact k r u hq
theorem gX8_fault_4 {d : Nat} {Q : Value → zm_S → Prop} {w : zm_S} {s0 : Int32} (k : Q (.int s0) w) : zm_T zd_H d mX8_fault Q 4 [] [.int s0] w := by
  exact zm_ireturn dX8_fault_4 rfl k
theorem gX8_isFound_0 {d : Nat} {Q : Value → zm_S → Prop} {w : zm_S} {a1 : Int32} {a2 : Int32} (k : zm_T zd_H d mX8_isFound Q 8 [(0, .ref 0), (1, .int a1), (2, .int a2), (3, .int (0 : Int32)), (4, .int (0 : Int32)), (5, .int (0 : Int32))] [] w) : zm_T zd_H d mX8_isFound Q 0 [(0, .ref 0), (1, .int a1), (2, .int a2)] [] w := by
  refine zm_iconst dX8_isFound_0 (v := (0 : Int32)) (by decide) ?_
  refine zm_istore_n dX8_isFound_1 rfl (Nat.le_of_ble_eq_true rfl) (ls' := [(3, .int (0 : Int32)), (0, .ref 0), (1, .int a1), (2, .int a2)]) rfl ?_
  refine zm_iconst dX8_isFound_2 (v := (0 : Int32)) (by decide) ?_
  refine zm_istore dX8_isFound_3 (Nat.le_of_ble_eq_true rfl) (ls' := [(4, .int (0 : Int32)), (3, .int (0 : Int32)), (0, .ref 0), (1, .int a1), (2, .int a2)]) rfl ?_
  refine zm_iconst dX8_isFound_5 (v := (0 : Int32)) (by decide) ?_
  refine zm_istore dX8_isFound_6 (Nat.le_of_ble_eq_true rfl) (ls' := [(5, .int (0 : Int32)), (4, .int (0 : Int32)), (3, .int (0 : Int32)), (0, .ref 0), (1, .int a1), (2, .int a2)]) rfl ?_
  refine zm_sub [3, 4, 5, 2, 1, 0] rfl ?_
  exact k
theorem gX8_isFound_8 {d : Nat} {Q : Value → zm_S → Prop} {w : zm_S} {a1 : Int32} {a2 : Int32} {a3 : Int32} {a4 : Int32} {a5 : Int32} (kt : (12 : Int32) ≤ a5 → zm_T zd_H d mX8_isFound Q 89 [(0, .ref 0), (3, .int a3), (4, .int a4)] [] w) (kf : ¬ (12 : Int32) ≤ a5 → zm_T zd_H d mX8_isFound Q 15 [(0, .ref 0), (1, .int a1), (2, .int a2), (3, .int a3), (4, .int a4), (5, .int a5)] [] w) : zm_T zd_H d mX8_isFound Q 8 [(0, .ref 0), (1, .int a1), (2, .int a2), (3, .int a3), (4, .int a4), (5, .int a5)] [] w := by
  refine zm_iload (x := a5) 5 dX8_isFound_8 rfl ?_
  refine zm_bipush dX8_isFound_10 (v := (12 : Int32)) (by decide) ?_
  refine zm_icmp_ge 89 dX8_isFound_12 (by decide) (fun h => ?_) (fun h => ?_)
  · refine zm_sub [0, 3, 4] rfl ?_
    exact kt h
  · exact kf h
theorem gX8_isFound_15 {d : Nat} {Q : Value → zm_S → Prop} {w : zm_S} {a1 : Int32} {a2 : Int32} {a3 : Int32} {a4 : Int32} {a5 : Int32} (hi26 : vp_in (((7 : Int32) * a5) + a1) 84) (hi40 : vp_in (((7 : Int32) * a5) + a2) 84) (kt : ¬ (w.1 10 ((((7 : Int32) * a5) + a1)).toNatClampNeg) = (1 : Int32) → zm_T zd_H d mX8_isFound Q 59 [(0, .ref 0), (1, .int a1), (2, .int a2), (4, .int a4), (5, .int a5), (6, .int (w.1 10 ((((7 : Int32) * a5) + a1)).toNatClampNeg)), (7, .int (w.1 10 ((((7 : Int32) * a5) + a2)).toNatClampNeg))] [.int a3] w) (kf : (w.1 10 ((((7 : Int32) * a5) + a1)).toNatClampNeg) = (1 : Int32) → zm_T zd_H d mX8_isFound Q 50 [(0, .ref 0), (1, .int a1), (2, .int a2), (4, .int a4), (5, .int a5), (6, .int (w.1 10 ((((7 : Int32) * a5) + a1)).toNatClampNeg)), (7, .int (w.1 10 ((((7 : Int32) * a5) + a2)).toNatClampNeg))] [.int a3] w) : zm_T zd_H d mX8_isFound Q 15 [(0, .ref 0), (1, .int a1), (2, .int a2), (3, .int a3), (4, .int a4), (5, .int a5)] [] w := by
  refine zm_aload_n (x := 0) 0 dX8_isFound_15 rfl rfl ?_
  refine zm_getf (v := .ref 10) (j := 11) dX8_isFound_16 clX8 flX8_37 (Nat.le_of_ble_eq_true rfl) zd_H0 rfl rfl ?_
  refine zm_bipush dX8_isFound_19 (v := (7 : Int32)) (by decide) ?_
  refine zm_iload (x := a5) 5 dX8_isFound_21 rfl ?_
  refine zm_imul dX8_isFound_23 ?_
  refine zm_iload_n (x := a1) 1 dX8_isFound_24 rfl rfl ?_
  refine zm_iadd dX8_isFound_25 ?_
  refine zm_iald dX8_isFound_26 zd_H10 hi26 ?_
  refine zm_istore dX8_isFound_27 (Nat.le_of_ble_eq_true rfl) (ls' := [(6, .int (w.1 10 ((((7 : Int32) * a5) + a1)).toNatClampNeg)), (0, .ref 0), (1, .int a1), (2, .int a2), (3, .int a3), (4, .int a4), (5, .int a5)]) rfl ?_
  refine zm_aload_n (x := 0) 1 dX8_isFound_29 rfl rfl ?_
  refine zm_getf (v := .ref 10) (j := 11) dX8_isFound_30 clX8 flX8_37 (Nat.le_of_ble_eq_true rfl) zd_H0 rfl rfl ?_
  refine zm_bipush dX8_isFound_33 (v := (7 : Int32)) (by decide) ?_
  refine zm_iload (x := a5) 6 dX8_isFound_35 rfl ?_
  refine zm_imul dX8_isFound_37 ?_
  refine zm_iload_n (x := a2) 3 dX8_isFound_38 rfl rfl ?_
  refine zm_iadd dX8_isFound_39 ?_
  refine zm_iald dX8_isFound_40 zd_H10 hi40 ?_
  refine zm_istore dX8_isFound_41 (Nat.le_of_ble_eq_true rfl) (ls' := [(7, .int (w.1 10 ((((7 : Int32) * a5) + a2)).toNatClampNeg)), (6, .int (w.1 10 ((((7 : Int32) * a5) + a1)).toNatClampNeg)), (0, .ref 0), (1, .int a1), (2, .int a2), (3, .int a3), (4, .int a4), (5, .int a5)]) rfl ?_
  refine zm_iload_n (x := a3) 5 dX8_isFound_43 rfl rfl ?_
  refine zm_iload (x := (w.1 10 ((((7 : Int32) * a5) + a1)).toNatClampNeg)) 1 dX8_isFound_44 rfl ?_
  refine zm_iconst dX8_isFound_46 (v := (1 : Int32)) (by decide) ?_
  refine zm_icmp_ne 59 dX8_isFound_47 (by decide) (fun h => ?_) (fun h => ?_)
  · refine zm_sub [2, 3, 4, 6, 7, 1, 0] rfl ?_
    exact kt h
  · refine zm_sub [2, 3, 4, 6, 7, 1, 0] rfl ?_
    exact kf h
theorem gX8_isFound_50 {d : Nat} {Q : Value → zm_S → Prop} {w : zm_S} {a1 : Int32} {a2 : Int32} {a4 : Int32} {a5 : Int32} {a6 : Int32} {a7 : Int32} {s0 : Int32} (kt : ¬ a7 = 0 → zm_T zd_H d mX8_isFound Q 59 [(0, .ref 0), (1, .int a1), (2, .int a2), (4, .int a4), (5, .int a5), (6, .int a6), (7, .int a7)] [.int s0] w) (kf : a7 = 0 → zm_T zd_H d mX8_isFound Q 55 [(0, .ref 0), (1, .int a1), (2, .int a2), (4, .int a4), (5, .int a5), (6, .int a6), (7, .int a7)] [.int s0] w) : zm_T zd_H d mX8_isFound Q 50 [(0, .ref 0), (1, .int a1), (2, .int a2), (4, .int a4), (5, .int a5), (6, .int a6), (7, .int a7)] [.int s0] w := by
  refine zm_iload (x := a7) 6 dX8_isFound_50 rfl ?_
  refine zm_if_ne 59 dX8_isFound_52 (by decide) (fun h => ?_) (fun h => ?_)
  · exact kt h
  · exact kf h
theorem gX8_isFound_55 {d : Nat} {Q : Value → zm_S → Prop} {w : zm_S} {a1 : Int32} {a2 : Int32} {a4 : Int32} {a5 : Int32} {a6 : Int32} {a7 : Int32} {s0 : Int32} (k : zm_T zd_H d mX8_isFound Q 60 [(0, .ref 0), (1, .int a1), (2, .int a2), (4, .int a4), (5, .int a5), (6, .int a6), (7, .int a7)] [.int (1 : Int32), .int s0] w) : zm_T zd_H d mX8_isFound Q 55 [(0, .ref 0), (1, .int a1), (2, .int a2), (4, .int a4), (5, .int a5), (6, .int a6), (7, .int a7)] [.int s0] w := by
  refine zm_iconst dX8_isFound_55 (v := (1 : Int32)) (by decide) ?_
  refine zm_goto 60 dX8_isFound_56 (by decide) ?_
  exact k
theorem gX8_isFound_59 {d : Nat} {Q : Value → zm_S → Prop} {w : zm_S} {a1 : Int32} {a2 : Int32} {a4 : Int32} {a5 : Int32} {a6 : Int32} {a7 : Int32} {s0 : Int32} (k : zm_T zd_H d mX8_isFound Q 60 [(0, .ref 0), (1, .int a1), (2, .int a2), (4, .int a4), (5, .int a5), (6, .int a6), (7, .int a7)] [.int (0 : Int32), .int s0] w) : zm_T zd_H d mX8_isFound Q 59 [(0, .ref 0), (1, .int a1), (2, .int a2), (4, .int a4), (5, .int a5), (6, .int a6), (7, .int a7)] [.int s0] w := by
  refine zm_iconst dX8_isFound_59 (v := (0 : Int32)) (by decide) ?_
  exact k
theorem gX8_isFound_60 {d : Nat} {Q : Value → zm_S → Prop} {w : zm_S} {a1 : Int32} {a2 : Int32} {a4 : Int32} {a5 : Int32} {a6 : Int32} {a7 : Int32} {s0 : Int32} {s1 : Int32} (kt : ¬ a6 = 0 → zm_T zd_H d mX8_isFound Q 79 [(0, .ref 0), (1, .int a1), (2, .int a2), (3, .int (s1 + s0)), (5, .int a5)] [.int a4] w) (kf : a6 = 0 → zm_T zd_H d mX8_isFound Q 69 [(0, .ref 0), (1, .int a1), (2, .int a2), (3, .int (s1 + s0)), (5, .int a5), (7, .int a7)] [.int a4] w) : zm_T zd_H d mX8_isFound Q 60 [(0, .ref 0), (1, .int a1), (2, .int a2), (4, .int a4), (5, .int a5), (6, .int a6), (7, .int a7)] [.int s0, .int s1] w := by
  refine zm_iadd dX8_isFound_60 ?_
  refine zm_istore_n dX8_isFound_61 rfl (Nat.le_of_ble_eq_true rfl) (ls' := [(3, .int (s1 + s0)), (0, .ref 0), (1, .int a1), (2, .int a2), (4, .int a4), (5, .int a5), (6, .int a6), (7, .int a7)]) rfl ?_
  refine zm_iload (x := a4) 4 dX8_isFound_62 rfl ?_
  refine zm_iload (x := a6) 6 dX8_isFound_64 rfl ?_
  refine zm_if_ne 79 dX8_isFound_66 (by decide) (fun h => ?_) (fun h => ?_)
  · refine zm_sub [1, 2, 3, 0, 5] rfl ?_
    exact kt h
  · refine zm_sub [1, 2, 3, 0, 5, 7] rfl ?_
    exact kf h
theorem gX8_isFound_69 {d : Nat} {Q : Value → zm_S → Prop} {w : zm_S} {a1 : Int32} {a2 : Int32} {a3 : Int32} {a5 : Int32} {a7 : Int32} {s0 : Int32} (kt : ¬ a7 = (1 : Int32) → zm_T zd_H d mX8_isFound Q 79 [(0, .ref 0), (1, .int a1), (2, .int a2), (3, .int a3), (5, .int a5)] [.int s0] w) (kf : a7 = (1 : Int32) → zm_T zd_H d mX8_isFound Q 75 [(0, .ref 0), (1, .int a1), (2, .int a2), (3, .int a3), (5, .int a5)] [.int s0] w) : zm_T zd_H d mX8_isFound Q 69 [(0, .ref 0), (1, .int a1), (2, .int a2), (3, .int a3), (5, .int a5), (7, .int a7)] [.int s0] w := by
  refine zm_iload (x := a7) 5 dX8_isFound_69 rfl ?_
  refine zm_iconst dX8_isFound_71 (v := (1 : Int32)) (by decide) ?_
  refine zm_icmp_ne 79 dX8_isFound_72 (by decide) (fun h => ?_) (fun h => ?_)
  · refine zm_sub [0, 1, 2, 3, 4] rfl ?_
    exact kt h
  · refine zm_sub [0, 1, 2, 3, 4] rfl ?_
    exact kf h
theorem gX8_isFound_75 {d : Nat} {Q : Value → zm_S → Prop} {w : zm_S} {a1 : Int32} {a2 : Int32} {a3 : Int32} {a5 : Int32} {s0 : Int32} (k : zm_T zd_H d mX8_isFound Q 80 [(0, .ref 0), (1, .int a1), (2, .int a2), (3, .int a3), (5, .int a5)] [.int (1 : Int32), .int s0] w) : zm_T zd_H d mX8_isFound Q 75 [(0, .ref 0), (1, .int a1), (2, .int a2), (3, .int a3), (5, .int a5)] [.int s0] w := by
  refine zm_iconst dX8_isFound_75 (v := (1 : Int32)) (by decide) ?_
  refine zm_goto 80 dX8_isFound_76 (by decide) ?_
  exact k
theorem gX8_isFound_79 {d : Nat} {Q : Value → zm_S → Prop} {w : zm_S} {a1 : Int32} {a2 : Int32} {a3 : Int32} {a5 : Int32} {s0 : Int32} (k : zm_T zd_H d mX8_isFound Q 80 [(0, .ref 0), (1, .int a1), (2, .int a2), (3, .int a3), (5, .int a5)] [.int (0 : Int32), .int s0] w) : zm_T zd_H d mX8_isFound Q 79 [(0, .ref 0), (1, .int a1), (2, .int a2), (3, .int a3), (5, .int a5)] [.int s0] w := by
  refine zm_iconst dX8_isFound_79 (v := (0 : Int32)) (by decide) ?_
  exact k
theorem gX8_isFound_80 {d : Nat} {Q : Value → zm_S → Prop} {w : zm_S} {a1 : Int32} {a2 : Int32} {a3 : Int32} {a5 : Int32} {s0 : Int32} {s1 : Int32} (k : zm_T zd_H d mX8_isFound Q 8 [(0, .ref 0), (1, .int a1), (2, .int a2), (3, .int a3), (4, .int (s1 + s0)), (5, .int (a5 + (1 : Int32)))] [] w) : zm_T zd_H d mX8_isFound Q 80 [(0, .ref 0), (1, .int a1), (2, .int a2), (3, .int a3), (5, .int a5)] [.int s0, .int s1] w := by
  refine zm_iadd dX8_isFound_80 ?_
  refine zm_istore dX8_isFound_81 (Nat.le_of_ble_eq_true rfl) (ls' := [(4, .int (s1 + s0)), (0, .ref 0), (1, .int a1), (2, .int a2), (3, .int a3), (5, .int a5)]) rfl ?_
  refine zm_iinc 5 dX8_isFound_83 (x := a5) (v := (a5 + (1 : Int32))) rfl rfl (Nat.le_of_ble_eq_true rfl) (ls' := [(5, .int (a5 + (1 : Int32))), (4, .int (s1 + s0)), (0, .ref 0), (1, .int a1), (2, .int a2), (3, .int a3)]) rfl ?_
  refine zm_goto 8 dX8_isFound_86 (by decide) ?_
  refine zm_sub [2, 3, 4, 5, 1, 0] rfl ?_
  exact k
theorem gX8_isFound_89 {d : Nat} {Q : Value → zm_S → Prop} {w : zm_S} {a3 : Int32} {a4 : Int32} (hi96 : vp_in (2 : Int32) 4) (kt : (w.1 5 ((2 : Int32)).toNatClampNeg) < a4 → zm_T zd_H d mX8_isFound Q 110 [] [] w) (kf : ¬ (w.1 5 ((2 : Int32)).toNatClampNeg) < a4 → zm_T zd_H d mX8_isFound Q 100 [(3, .int a3), (4, .int a4)] [] w) : zm_T zd_H d mX8_isFound Q 89 [(0, .ref 0), (3, .int a3), (4, .int a4)] [] w := by
  refine zm_iload (x := a4) 2 dX8_isFound_89 rfl ?_
  refine zm_aload_n (x := 0) 0 dX8_isFound_91 rfl rfl ?_
  refine zm_getf (v := .ref 5) (j := 5) dX8_isFound_92 clX8 flX8_22 (Nat.le_of_ble_eq_true rfl) zd_H0 rfl rfl ?_
  refine zm_iconst dX8_isFound_95 (v := (2 : Int32)) (by decide) ?_
  refine zm_iald dX8_isFound_96 zd_H5 hi96 ?_
  refine zm_icmp_gt 110 dX8_isFound_97 (by decide) (fun h => ?_) (fun h => ?_)
  · refine zm_sub [] rfl ?_
    exact kt h
  · refine zm_sub [1, 2] rfl ?_
    exact kf h
theorem gX8_isFound_100 {d : Nat} {Q : Value → zm_S → Prop} {w : zm_S} {a3 : Int32} {a4 : Int32} (kt : a3 ≤ a4 → zm_T zd_H d mX8_isFound Q 110 [] [] w) (kf : ¬ a3 ≤ a4 → zm_T zd_H d mX8_isFound Q 106 [] [] w) : zm_T zd_H d mX8_isFound Q 100 [(3, .int a3), (4, .int a4)] [] w := by
  refine zm_iload (x := a4) 1 dX8_isFound_100 rfl ?_
  refine zm_iload_n (x := a3) 0 dX8_isFound_102 rfl rfl ?_
  refine zm_icmp_ge 110 dX8_isFound_103 (by decide) (fun h => ?_) (fun h => ?_)
  · refine zm_sub [] rfl ?_
    exact kt h
  · refine zm_sub [] rfl ?_
    exact kf h
theorem gX8_isFound_106 {d : Nat} {Q : Value → zm_S → Prop} {w : zm_S} (k : Q (.int (1 : Int32)) w) : zm_T zd_H d mX8_isFound Q 106 [] [] w := by
  refine zm_iconst dX8_isFound_106 (v := (1 : Int32)) (by decide) ?_
  refine zm_goto 111 dX8_isFound_107 (by decide) ?_
  exact zm_zreturn dX8_isFound_111 rfl (by decide) k
theorem gX8_isFound_110 {d : Nat} {Q : Value → zm_S → Prop} {w : zm_S} (k : Q (.int (0 : Int32)) w) : zm_T zd_H d mX8_isFound Q 110 [] [] w := by
  refine zm_iconst dX8_isFound_110 (v := (0 : Int32)) (by decide) ?_
  exact zm_zreturn dX8_isFound_111 rfl (by decide) k
theorem gX8_isNeeded_0 {d : Nat} {Q : Value → zm_S → Prop} {w : zm_S} {a1 : Int32} {a2 : Int32} {a3 : Int32} (kt : a1 = a2 → zm_T zd_H d mX8_isNeeded Q 38 [] [] w) (kf : ¬ a1 = a2 → zm_T zd_H d mX8_isNeeded Q 5 [(0, .ref 0), (1, .int a1), (2, .int a2), (3, .int a3)] [] w) : zm_T zd_H d mX8_isNeeded Q 0 [(0, .ref 0), (1, .int a1), (2, .int a2), (3, .int a3)] [] w := by
  refine zm_iload_n (x := a1) 1 dX8_isNeeded_0 rfl rfl ?_
  refine zm_iload_n (x := a2) 2 dX8_isNeeded_1 rfl rfl ?_
  refine zm_icmp_eq 38 dX8_isNeeded_2 (by decide) (fun h => ?_) (fun h => ?_)
  · refine zm_sub [] rfl ?_
    exact kt h
  · exact kf h
theorem gX8_isNeeded_5 {d : Nat} {Q : Value → zm_S → Prop} {w : zm_S} {a1 : Int32} {a2 : Int32} {a3 : Int32} (kt : ¬ a3 = 0 → zm_T zd_H d mX8_isNeeded Q 25 [(0, .ref 0), (1, .int a1), (2, .int a2)] [] w) (kf : a3 = 0 → zm_T zd_H d mX8_isNeeded Q 9 [(0, .ref 0), (1, .int a1), (2, .int a2)] [] w) : zm_T zd_H d mX8_isNeeded Q 5 [(0, .ref 0), (1, .int a1), (2, .int a2), (3, .int a3)] [] w := by
  refine zm_iload_n (x := a3) 3 dX8_isNeeded_5 rfl rfl ?_
  refine zm_if_ne 25 dX8_isNeeded_6 (by decide) (fun h => ?_) (fun h => ?_)
  · refine zm_sub [0, 1, 2] rfl ?_
    exact kt h
  · refine zm_sub [0, 1, 2] rfl ?_
    exact kf h
theorem gX8_isNeeded_9 {d : Nat} {Q : Value → zm_S → Prop} {w : zm_S} {a1 : Int32} {a2 : Int32} {Q' : Value → zm_S → Prop} (hi14 : vp_in a2 7) (hC : zm_C zd_H d mX8_isIn [.int (w.1 12 (a2).toNatClampNeg), .int a1] w Q') (k : ∀ (r : Int32) (u : zm_S), Q' (.int r) u → zm_T zd_H (d + 1) mX8_isNeeded Q 19 [] [.int r] u) : zm_T zd_H (d + 1) mX8_isNeeded Q 9 [(0, .ref 0), (1, .int a1), (2, .int a2)] [] w := by
  refine zm_aload_n (x := 0) 0 dX8_isNeeded_9 rfl rfl ?_
  refine zm_getf (v := .ref 12) (j := 16) dX8_isNeeded_10 clX8 flX8_43 (Nat.le_of_ble_eq_true rfl) zd_H0 rfl rfl ?_
  refine zm_iload_n (x := a2) 2 dX8_isNeeded_13 rfl rfl ?_
  refine zm_iald dX8_isNeeded_14 zd_H12 hi14 ?_
  refine zm_iload_n (x := a1) 1 dX8_isNeeded_15 rfl rfl ?_
  refine zm_callSz (as := [.int (w.1 12 (a2).toNatClampNeg), .int a1]) (rest := []) dX8_isNeeded_16 rfl mtX8_isIn lkX8_153 rfl (Nat.le_of_ble_eq_true rfl) hC rfl (fun r u hq => ?_)
  refine zm_sub [] rfl ?_
  exact k r u hq
theorem gX8_isNeeded_19 {d : Nat} {Q : Value → zm_S → Prop} {w : zm_S} {s0 : Int32} (kt : s0 = 0 → zm_T zd_H d mX8_isNeeded Q 38 [] [] w) (kf : ¬ s0 = 0 → zm_T zd_H d mX8_isNeeded Q 22 [] [] w) : zm_T zd_H d mX8_isNeeded Q 19 [] [.int s0] w := by
  refine zm_if_eq 38 dX8_isNeeded_19 (by decide) (fun h => ?_) (fun h => ?_)
  · exact kt h
  · exact kf h
theorem gX8_isNeeded_22 {d : Nat} {Q : Value → zm_S → Prop} {w : zm_S} (k : zm_T zd_H d mX8_isNeeded Q 34 [] [] w) : zm_T zd_H d mX8_isNeeded Q 22 [] [] w := by
  refine zm_goto 34 dX8_isNeeded_22 (by decide) ?_
  exact k
theorem gX8_isNeeded_25 {d : Nat} {Q : Value → zm_S → Prop} {w : zm_S} {a1 : Int32} {a2 : Int32} {Q' : Value → zm_S → Prop} (hC : zm_C zd_H d mX8_isFound [.ref 0, .int a1, .int a2] w Q') (k : ∀ (r : Int32) (u : zm_S), Q' (.int r) u → zm_T zd_H (d + 1) mX8_isNeeded Q 31 [] [.int r] u) : zm_T zd_H (d + 1) mX8_isNeeded Q 25 [(0, .ref 0), (1, .int a1), (2, .int a2)] [] w := by
  refine zm_aload_n (x := 0) 0 dX8_isNeeded_25 rfl rfl ?_
  refine zm_iload_n (x := a1) 1 dX8_isNeeded_26 rfl rfl ?_
  refine zm_iload_n (x := a2) 2 dX8_isNeeded_27 rfl rfl ?_
  refine zm_callVz (as := [.int a1, .int a2]) (rest := []) dX8_isNeeded_28 rfl mtX8_isFound lkX8_173 zd_H0 (C := RX8) rfl rfl rfl (Nat.le_of_ble_eq_true rfl) hC rfl (fun r u hq => ?_)
  refine zm_sub [] rfl ?_
  exact k r u hq
theorem gX8_isNeeded_31 {d : Nat} {Q : Value → zm_S → Prop} {w : zm_S} {s0 : Int32} (kt : s0 = 0 → zm_T zd_H d mX8_isNeeded Q 38 [] [] w) (kf : ¬ s0 = 0 → zm_T zd_H d mX8_isNeeded Q 34 [] [] w) : zm_T zd_H d mX8_isNeeded Q 31 [] [.int s0] w := by
  refine zm_if_eq 38 dX8_isNeeded_31 (by decide) (fun h => ?_) (fun h => ?_)
  · exact kt h
  · exact kf h
theorem gX8_isNeeded_34 {d : Nat} {Q : Value → zm_S → Prop} {w : zm_S} (k : Q (.int (1 : Int32)) w) : zm_T zd_H d mX8_isNeeded Q 34 [] [] w := by
  refine zm_iconst dX8_isNeeded_34 (v := (1 : Int32)) (by decide) ?_
  refine zm_goto 39 dX8_isNeeded_35 (by decide) ?_
  exact zm_zreturn dX8_isNeeded_39 rfl (by decide) k
theorem gX8_isNeeded_38 {d : Nat} {Q : Value → zm_S → Prop} {w : zm_S} (k : Q (.int (0 : Int32)) w) : zm_T zd_H d mX8_isNeeded Q 38 [] [] w := by
  refine zm_iconst dX8_isNeeded_38 (v := (0 : Int32)) (by decide) ?_
  exact zm_zreturn dX8_isNeeded_39 rfl (by decide) k
theorem gX8_find_0 {d : Nat} {Q : Value → zm_S → Prop} {w : zm_S} {Q' : Value → zm_S → Prop} (hC : zm_C zd_H d mX8_findSays [.ref 0] w Q') (k : ∀ (u : zm_S), Q' .null u → zm_T zd_H (d + 1) mX8_find Q 4 [(0, .ref 0)] [] u) : zm_T zd_H (d + 1) mX8_find Q 0 [(0, .ref 0)] [] w := by
  refine zm_aload_n (x := 0) 0 dX8_find_0 rfl rfl ?_
  refine zm_callVv (as := []) (rest := []) dX8_find_1 rfl mtX8_findSays lkX8_136 zd_H0 (C := RX8) rfl rfl rfl (Nat.le_of_ble_eq_true rfl) hC rfl (fun u hq => ?_)
  exact k u hq
theorem gX8_find_4 {d : Nat} {Q : Value → zm_S → Prop} {w : zm_S} {Q' : Value → zm_S → Prop} (hC : zm_C zd_H d mX8_reads [.ref 0] w Q') (k : ∀ (r : Int32) (u : zm_S), Q' (.int r) u → zm_T zd_H (d + 1) mX8_find Q 8 [] [.int r] u) : zm_T zd_H (d + 1) mX8_find Q 4 [(0, .ref 0)] [] w := by
  refine zm_aload_n (x := 0) 0 dX8_find_4 rfl rfl ?_
  refine zm_callVi (as := []) (rest := []) dX8_find_5 rfl mtX8_reads lkX8_170 zd_H0 (C := RX8) rfl rfl rfl (Nat.le_of_ble_eq_true rfl) hC rfl (fun r u hq => ?_)
  refine zm_sub [] rfl ?_
  exact k r u hq
theorem gX8_find_8 {d : Nat} {Q : Value → zm_S → Prop} {w : zm_S} {s0 : Int32} (k : Q .null w) : zm_T zd_H d mX8_find Q 8 [] [.int s0] w := by
  refine zm_pop dX8_find_8 rfl ?_
  exact zm_return dX8_find_9 rfl k
theorem gX8_needed_0 {d : Nat} {Q : Value → zm_S → Prop} {w : zm_S} {a1 : Int32} {a2 : Int32} {a3 : Int32} {Q' : Value → zm_S → Prop} (hC : zm_C zd_H d mX8_isQuestion [.ref 0, .int a1] w Q') (k : ∀ (r : Int32) (u : zm_S), Q' (.int r) u → zm_T zd_H (d + 1) mX8_needed Q 5 [(0, .ref 0), (1, .int a1), (2, .int a2), (3, .int a3)] [.int r] u) : zm_T zd_H (d + 1) mX8_needed Q 0 [(0, .ref 0), (1, .int a1), (2, .int a2), (3, .int a3)] [] w := by
  refine zm_aload_n (x := 0) 0 dX8_needed_0 rfl rfl ?_
  refine zm_iload_n (x := a1) 1 dX8_needed_1 rfl rfl ?_
  refine zm_callVz (as := [.int a1]) (rest := []) dX8_needed_2 rfl mtX8_isQuestion lkX8_176 zd_H0 (C := RX8) rfl rfl rfl (Nat.le_of_ble_eq_true rfl) hC rfl (fun r u hq => ?_)
  exact k r u hq
theorem gX8_needed_5 {d : Nat} {Q : Value → zm_S → Prop} {w : zm_S} {a1 : Int32} {a2 : Int32} {a3 : Int32} {s0 : Int32} (kt : s0 = 0 → zm_T zd_H d mX8_needed Q 28 [] [] w) (kf : ¬ s0 = 0 → zm_T zd_H d mX8_needed Q 8 [(0, .ref 0), (1, .int a1), (2, .int a2), (3, .int a3)] [] w) : zm_T zd_H d mX8_needed Q 5 [(0, .ref 0), (1, .int a1), (2, .int a2), (3, .int a3)] [.int s0] w := by
  refine zm_if_eq 28 dX8_needed_5 (by decide) (fun h => ?_) (fun h => ?_)
  · refine zm_sub [] rfl ?_
    exact kt h
  · exact kf h
theorem gX8_needed_8 {d : Nat} {Q : Value → zm_S → Prop} {w : zm_S} {a1 : Int32} {a2 : Int32} {a3 : Int32} {Q' : Value → zm_S → Prop} (hC : zm_C zd_H d mX8_isQuestion [.ref 0, .int a2] w Q') (k : ∀ (r : Int32) (u : zm_S), Q' (.int r) u → zm_T zd_H (d + 1) mX8_needed Q 13 [(0, .ref 0), (1, .int a1), (2, .int a2), (3, .int a3)] [.int r] u) : zm_T zd_H (d + 1) mX8_needed Q 8 [(0, .ref 0), (1, .int a1), (2, .int a2), (3, .int a3)] [] w := by
  refine zm_aload_n (x := 0) 0 dX8_needed_8 rfl rfl ?_
  refine zm_iload_n (x := a2) 2 dX8_needed_9 rfl rfl ?_
  refine zm_callVz (as := [.int a2]) (rest := []) dX8_needed_10 rfl mtX8_isQuestion lkX8_176 zd_H0 (C := RX8) rfl rfl rfl (Nat.le_of_ble_eq_true rfl) hC rfl (fun r u hq => ?_)
  exact k r u hq
theorem gX8_needed_13 {d : Nat} {Q : Value → zm_S → Prop} {w : zm_S} {a1 : Int32} {a2 : Int32} {a3 : Int32} {s0 : Int32} (kt : s0 = 0 → zm_T zd_H d mX8_needed Q 28 [] [] w) (kf : ¬ s0 = 0 → zm_T zd_H d mX8_needed Q 16 [(0, .ref 0), (1, .int a1), (2, .int a2), (3, .int a3)] [] w) : zm_T zd_H d mX8_needed Q 13 [(0, .ref 0), (1, .int a1), (2, .int a2), (3, .int a3)] [.int s0] w := by
  refine zm_if_eq 28 dX8_needed_13 (by decide) (fun h => ?_) (fun h => ?_)
  · refine zm_sub [] rfl ?_
    exact kt h
  · exact kf h
theorem gX8_needed_16 {d : Nat} {Q : Value → zm_S → Prop} {w : zm_S} {a1 : Int32} {a2 : Int32} {a3 : Int32} (kt : a1 = a2 → zm_T zd_H d mX8_needed Q 28 [] [] w) (kf : ¬ a1 = a2 → zm_T zd_H d mX8_needed Q 21 [(0, .ref 0), (1, .int a1), (2, .int a2), (3, .int a3)] [] w) : zm_T zd_H d mX8_needed Q 16 [(0, .ref 0), (1, .int a1), (2, .int a2), (3, .int a3)] [] w := by
  refine zm_iload_n (x := a1) 1 dX8_needed_16 rfl rfl ?_
  refine zm_iload_n (x := a2) 2 dX8_needed_17 rfl rfl ?_
  refine zm_icmp_eq 28 dX8_needed_18 (by decide) (fun h => ?_) (fun h => ?_)
  · refine zm_sub [] rfl ?_
    exact kt h
  · exact kf h
theorem gX8_needed_21 {d : Nat} {Q : Value → zm_S → Prop} {w : zm_S} {a1 : Int32} {a2 : Int32} {a3 : Int32} {Q' : Value → zm_S → Prop} (hC : zm_C zd_H d mX8_isTwo [.int a3] w Q') (k : ∀ (r : Int32) (u : zm_S), Q' (.int r) u → zm_T zd_H (d + 1) mX8_needed Q 25 [(0, .ref 0), (1, .int a1), (2, .int a2), (3, .int a3)] [.int r] u) : zm_T zd_H (d + 1) mX8_needed Q 21 [(0, .ref 0), (1, .int a1), (2, .int a2), (3, .int a3)] [] w := by
  refine zm_iload_n (x := a3) 3 dX8_needed_21 rfl rfl ?_
  refine zm_callSz (as := [.int a3]) (rest := []) dX8_needed_22 rfl mtX8_isTwo lkX8_179 rfl (Nat.le_of_ble_eq_true rfl) hC rfl (fun r u hq => ?_)
  exact k r u hq
theorem gX8_needed_25 {d : Nat} {Q : Value → zm_S → Prop} {w : zm_S} {a1 : Int32} {a2 : Int32} {a3 : Int32} {s0 : Int32} (kt : ¬ s0 = 0 → zm_T zd_H d mX8_needed Q 31 [(0, .ref 0), (1, .int a1), (2, .int a2), (3, .int a3)] [] w) (kf : s0 = 0 → zm_T zd_H d mX8_needed Q 28 [] [] w) : zm_T zd_H d mX8_needed Q 25 [(0, .ref 0), (1, .int a1), (2, .int a2), (3, .int a3)] [.int s0] w := by
  refine zm_if_ne 31 dX8_needed_25 (by decide) (fun h => ?_) (fun h => ?_)
  · exact kt h
  · refine zm_sub [] rfl ?_
    exact kf h
theorem gX8_needed_28 {d : Nat} {Q : Value → zm_S → Prop} {w : zm_S} (k : Q (.int (-2 : Int32)) w) : zm_T zd_H d mX8_needed Q 28 [] [] w := by
  refine zm_bipush dX8_needed_28 (v := (-2 : Int32)) (by decide) ?_
  exact zm_ireturn dX8_needed_30 rfl k
theorem gX8_needed_31 {d : Nat} {Q : Value → zm_S → Prop} {w : zm_S} {a1 : Int32} {a2 : Int32} {a3 : Int32} {Q' : Value → zm_S → Prop} (hC : zm_C zd_H d mX8_find [.ref 0] w Q') (k : ∀ (u : zm_S), Q' .null u → zm_T zd_H (d + 1) mX8_needed Q 35 [(0, .ref 0), (1, .int a1), (2, .int a2), (3, .int a3)] [] u) : zm_T zd_H (d + 1) mX8_needed Q 31 [(0, .ref 0), (1, .int a1), (2, .int a2), (3, .int a3)] [] w := by
  refine zm_aload_n (x := 0) 0 dX8_needed_31 rfl rfl ?_
  refine zm_callVv (as := []) (rest := []) dX8_needed_32 rfl mtX8_find lkX8_182 zd_H0 (C := RX8) rfl rfl rfl (Nat.le_of_ble_eq_true rfl) hC rfl (fun u hq => ?_)
  exact k u hq
theorem gX8_needed_35 {d : Nat} {Q : Value → zm_S → Prop} {w : zm_S} {a1 : Int32} {a2 : Int32} {a3 : Int32} {Q' : Value → zm_S → Prop} (hC : zm_C zd_H d mX8_isNeeded [.ref 0, .int a1, .int a2, .int a3] w Q') (k : ∀ (r : Int32) (u : zm_S), Q' (.int r) u → zm_T zd_H (d + 1) mX8_needed Q 42 [] [.int r] u) : zm_T zd_H (d + 1) mX8_needed Q 35 [(0, .ref 0), (1, .int a1), (2, .int a2), (3, .int a3)] [] w := by
  refine zm_aload_n (x := 0) 0 dX8_needed_35 rfl rfl ?_
  refine zm_iload_n (x := a1) 1 dX8_needed_36 rfl rfl ?_
  refine zm_iload_n (x := a2) 2 dX8_needed_37 rfl rfl ?_
  refine zm_iload_n (x := a3) 3 dX8_needed_38 rfl rfl ?_
  refine zm_callVz (as := [.int a1, .int a2, .int a3]) (rest := []) dX8_needed_39 rfl mtX8_isNeeded lkX8_185 zd_H0 (C := RX8) rfl rfl rfl (Nat.le_of_ble_eq_true rfl) hC rfl (fun r u hq => ?_)
  refine zm_sub [] rfl ?_
  exact k r u hq
theorem gX8_needed_42 {d : Nat} {Q : Value → zm_S → Prop} {w : zm_S} {s0 : Int32} (kt : s0 = 0 → zm_T zd_H d mX8_needed Q 49 [] [] w) (kf : ¬ s0 = 0 → zm_T zd_H d mX8_needed Q 45 [] [] w) : zm_T zd_H d mX8_needed Q 42 [] [.int s0] w := by
  refine zm_if_eq 49 dX8_needed_42 (by decide) (fun h => ?_) (fun h => ?_)
  · exact kt h
  · exact kf h
theorem gX8_needed_45 {d : Nat} {Q : Value → zm_S → Prop} {w : zm_S} (k : Q (.int (1 : Int32)) w) : zm_T zd_H d mX8_needed Q 45 [] [] w := by
  refine zm_iconst dX8_needed_45 (v := (1 : Int32)) (by decide) ?_
  refine zm_goto 50 dX8_needed_46 (by decide) ?_
  exact zm_ireturn dX8_needed_50 rfl k
theorem gX8_needed_49 {d : Nat} {Q : Value → zm_S → Prop} {w : zm_S} (k : Q (.int (0 : Int32)) w) : zm_T zd_H d mX8_needed Q 49 [] [] w := by
  refine zm_iconst dX8_needed_49 (v := (0 : Int32)) (by decide) ?_
  exact zm_ireturn dX8_needed_50 rfl k
theorem gX8_findNeeds_0 {d : Nat} {Q : Value → zm_S → Prop} {w : zm_S} {Q' : Value → zm_S → Prop} (hC : zm_C zd_H d mX8_find [.ref 0] w Q') (k : ∀ (u : zm_S), Q' .null u → zm_T zd_H (d + 1) mX8_findNeeds Q 4 [(0, .ref 0)] [] u) : zm_T zd_H (d + 1) mX8_findNeeds Q 0 [(0, .ref 0)] [] w := by
  refine zm_aload_n (x := 0) 0 dX8_findNeeds_0 rfl rfl ?_
  refine zm_callVv (as := []) (rest := []) dX8_findNeeds_1 rfl mtX8_find lkX8_182 zd_H0 (C := RX8) rfl rfl rfl (Nat.le_of_ble_eq_true rfl) hC rfl (fun u hq => ?_)
  exact k u hq
theorem gX8_findNeeds_4 {d : Nat} {Q : Value → zm_S → Prop} {w : zm_S} (k : zm_T zd_H d mX8_findNeeds Q 6 [(0, .ref 0), (1, .int (0 : Int32))] [] w) : zm_T zd_H d mX8_findNeeds Q 4 [(0, .ref 0)] [] w := by
  refine zm_iconst dX8_findNeeds_4 (v := (0 : Int32)) (by decide) ?_
  refine zm_istore_n dX8_findNeeds_5 rfl (Nat.le_of_ble_eq_true rfl) (ls' := [(1, .int (0 : Int32)), (0, .ref 0)]) rfl ?_
  refine zm_sub [1, 0] rfl ?_
  exact k
theorem gX8_findNeeds_6 {d : Nat} {Q : Value → zm_S → Prop} {w : zm_S} {a1 : Int32} {Q' : Value → zm_S → Prop} (hC : zm_C zd_H d mX8_n [.ref 0] w Q') (k : ∀ (r : Int32) (u : zm_S), Q' (.int r) u → zm_T zd_H (d + 1) mX8_findNeeds Q 11 [(0, .ref 0), (1, .int a1)] [.int r, .int a1] u) : zm_T zd_H (d + 1) mX8_findNeeds Q 6 [(0, .ref 0), (1, .int a1)] [] w := by
  refine zm_iload_n (x := a1) 1 dX8_findNeeds_6 rfl rfl ?_
  refine zm_aload_n (x := 0) 0 dX8_findNeeds_7 rfl rfl ?_
  refine zm_callVi (as := []) (rest := [.int a1]) dX8_findNeeds_8 rfl mtX8_n lkX8_111 zd_H0 (C := RX8) rfl rfl rfl (Nat.le_of_ble_eq_true rfl) hC rfl (fun r u hq => ?_)
  exact k r u hq
theorem gX8_findNeeds_11 {d : Nat} {Q : Value → zm_S → Prop} {w : zm_S} {a1 : Int32} {s0 : Int32} {s1 : Int32} (kt : s0 ≤ s1 → zm_T zd_H d mX8_findNeeds Q 74 [] [] w) (kf : ¬ s0 ≤ s1 → zm_T zd_H d mX8_findNeeds Q 14 [(0, .ref 0), (1, .int a1)] [] w) : zm_T zd_H d mX8_findNeeds Q 11 [(0, .ref 0), (1, .int a1)] [.int s0, .int s1] w := by
  refine zm_icmp_ge 74 dX8_findNeeds_11 (by decide) (fun h => ?_) (fun h => ?_)
  · refine zm_sub [] rfl ?_
    exact kt h
  · exact kf h
theorem gX8_findNeeds_14 {d : Nat} {Q : Value → zm_S → Prop} {w : zm_S} {a1 : Int32} (hi20 : vp_in a1 7) (k : zm_T zd_H d mX8_findNeeds Q 23 [(0, .ref 0), (1, .int a1), (2, .int (0 : Int32))] [] (zm_pi w 13 (a1).toNatClampNeg (0 : Int32))) : zm_T zd_H d mX8_findNeeds Q 14 [(0, .ref 0), (1, .int a1)] [] w := by
  refine zm_aload_n (x := 0) 0 dX8_findNeeds_14 rfl rfl ?_
  refine zm_getf (v := .ref 13) (j := 17) dX8_findNeeds_15 clX8 flX8_46 (Nat.le_of_ble_eq_true rfl) zd_H0 rfl rfl ?_
  refine zm_iload_n (x := a1) 1 dX8_findNeeds_18 rfl rfl ?_
  refine zm_iconst dX8_findNeeds_19 (v := (0 : Int32)) (by decide) ?_
  refine zm_iast dX8_findNeeds_20 zd_H13 hi20 ?_
  refine zm_iconst dX8_findNeeds_21 (v := (0 : Int32)) (by decide) ?_
  refine zm_istore_n dX8_findNeeds_22 rfl (Nat.le_of_ble_eq_true rfl) (ls' := [(2, .int (0 : Int32)), (0, .ref 0), (1, .int a1)]) rfl ?_
  refine zm_sub [1, 2, 0] rfl ?_
  exact k
theorem gX8_findNeeds_23 {d : Nat} {Q : Value → zm_S → Prop} {w : zm_S} {a1 : Int32} {a2 : Int32} {Q' : Value → zm_S → Prop} (hC : zm_C zd_H d mX8_n [.ref 0] w Q') (k : ∀ (r : Int32) (u : zm_S), Q' (.int r) u → zm_T zd_H (d + 1) mX8_findNeeds Q 28 [(0, .ref 0), (1, .int a1), (2, .int a2)] [.int r, .int a2] u) : zm_T zd_H (d + 1) mX8_findNeeds Q 23 [(0, .ref 0), (1, .int a1), (2, .int a2)] [] w := by
  refine zm_iload_n (x := a2) 2 dX8_findNeeds_23 rfl rfl ?_
  refine zm_aload_n (x := 0) 0 dX8_findNeeds_24 rfl rfl ?_
  refine zm_callVi (as := []) (rest := [.int a2]) dX8_findNeeds_25 rfl mtX8_n lkX8_111 zd_H0 (C := RX8) rfl rfl rfl (Nat.le_of_ble_eq_true rfl) hC rfl (fun r u hq => ?_)
  exact k r u hq
theorem gX8_findNeeds_28 {d : Nat} {Q : Value → zm_S → Prop} {w : zm_S} {a1 : Int32} {a2 : Int32} {s0 : Int32} {s1 : Int32} (kt : s0 ≤ s1 → zm_T zd_H d mX8_findNeeds Q 68 [(0, .ref 0), (1, .int a1)] [] w) (kf : ¬ s0 ≤ s1 → zm_T zd_H d mX8_findNeeds Q 31 [(0, .ref 0), (1, .int a1), (2, .int a2)] [] w) : zm_T zd_H d mX8_findNeeds Q 28 [(0, .ref 0), (1, .int a1), (2, .int a2)] [.int s0, .int s1] w := by
  refine zm_icmp_ge 68 dX8_findNeeds_28 (by decide) (fun h => ?_) (fun h => ?_)
  · refine zm_sub [0, 1] rfl ?_
    exact kt h
  · exact kf h
theorem gX8_findNeeds_31 {d : Nat} {Q : Value → zm_S → Prop} {w : zm_S} {a1 : Int32} {a2 : Int32} {Q' : Value → zm_S → Prop} (hi37 : vp_in a1 7) (hi46 : vp_in (3 : Int32) 4) (hC : zm_C zd_H d mX8_isNeeded [.ref 0, .int a2, .int a1, .int (w.1 5 ((3 : Int32)).toNatClampNeg)] w Q') (k : ∀ (r : Int32) (u : zm_S), Q' (.int r) u → zm_T zd_H (d + 1) mX8_findNeeds Q 50 [(0, .ref 0), (1, .int a1), (2, .int a2)] [.int r, .int (w.1 13 (a1).toNatClampNeg), .int a1, .ref 13] u) : zm_T zd_H (d + 1) mX8_findNeeds Q 31 [(0, .ref 0), (1, .int a1), (2, .int a2)] [] w := by
  refine zm_aload_n (x := 0) 0 dX8_findNeeds_31 rfl rfl ?_
  refine zm_getf (v := .ref 13) (j := 17) dX8_findNeeds_32 clX8 flX8_46 (Nat.le_of_ble_eq_true rfl) zd_H0 rfl rfl ?_
  refine zm_iload_n (x := a1) 1 dX8_findNeeds_35 rfl rfl ?_
  refine zm_dup2 dX8_findNeeds_36 rfl rfl ?_
  refine zm_iald dX8_findNeeds_37 zd_H13 hi37 ?_
  refine zm_aload_n (x := 0) 0 dX8_findNeeds_38 rfl rfl ?_
  refine zm_iload_n (x := a2) 2 dX8_findNeeds_39 rfl rfl ?_
  refine zm_iload_n (x := a1) 1 dX8_findNeeds_40 rfl rfl ?_
  refine zm_aload_n (x := 0) 0 dX8_findNeeds_41 rfl rfl ?_
  refine zm_getf (v := .ref 5) (j := 5) dX8_findNeeds_42 clX8 flX8_22 (Nat.le_of_ble_eq_true rfl) zd_H0 rfl rfl ?_
  refine zm_iconst dX8_findNeeds_45 (v := (3 : Int32)) (by decide) ?_
  refine zm_iald dX8_findNeeds_46 zd_H5 hi46 ?_
  refine zm_callVz (as := [.int a2, .int a1, .int (w.1 5 ((3 : Int32)).toNatClampNeg)]) (rest := [.int (w.1 13 (a1).toNatClampNeg), .int a1, .ref 13]) dX8_findNeeds_47 rfl mtX8_isNeeded lkX8_185 zd_H0 (C := RX8) rfl rfl rfl (Nat.le_of_ble_eq_true rfl) hC rfl (fun r u hq => ?_)
  exact k r u hq
theorem gX8_findNeeds_50 {d : Nat} {Q : Value → zm_S → Prop} {w : zm_S} {a1 : Int32} {a2 : Int32} {s0 : Int32} {s1 : Int32} {s2 : Int32} (kt : s0 = 0 → zm_T zd_H d mX8_findNeeds Q 59 [(0, .ref 0), (1, .int a1), (2, .int a2)] [.int s1, .int s2, .ref 13] w) (kf : ¬ s0 = 0 → zm_T zd_H d mX8_findNeeds Q 53 [(0, .ref 0), (1, .int a1), (2, .int a2)] [.int s1, .int s2, .ref 13] w) : zm_T zd_H d mX8_findNeeds Q 50 [(0, .ref 0), (1, .int a1), (2, .int a2)] [.int s0, .int s1, .int s2, .ref 13] w := by
  refine zm_if_eq 59 dX8_findNeeds_50 (by decide) (fun h => ?_) (fun h => ?_)
  · exact kt h
  · exact kf h
theorem gX8_findNeeds_53 {d : Nat} {Q : Value → zm_S → Prop} {w : zm_S} {a1 : Int32} {a2 : Int32} {s0 : Int32} {s1 : Int32} (k : zm_T zd_H d mX8_findNeeds Q 60 [(0, .ref 0), (1, .int a1), (2, .int a2)] [.int ((1 : Int32) <<< (a2 &&& 31)), .int s0, .int s1, .ref 13] w) : zm_T zd_H d mX8_findNeeds Q 53 [(0, .ref 0), (1, .int a1), (2, .int a2)] [.int s0, .int s1, .ref 13] w := by
  refine zm_iconst dX8_findNeeds_53 (v := (1 : Int32)) (by decide) ?_
  refine zm_iload_n (x := a2) 2 dX8_findNeeds_54 rfl rfl ?_
  refine zm_ishl dX8_findNeeds_55 ?_
  refine zm_goto 60 dX8_findNeeds_56 (by decide) ?_
  exact k
theorem gX8_findNeeds_59 {d : Nat} {Q : Value → zm_S → Prop} {w : zm_S} {a1 : Int32} {a2 : Int32} {s0 : Int32} {s1 : Int32} (k : zm_T zd_H d mX8_findNeeds Q 60 [(0, .ref 0), (1, .int a1), (2, .int a2)] [.int (0 : Int32), .int s0, .int s1, .ref 13] w) : zm_T zd_H d mX8_findNeeds Q 59 [(0, .ref 0), (1, .int a1), (2, .int a2)] [.int s0, .int s1, .ref 13] w := by
  refine zm_iconst dX8_findNeeds_59 (v := (0 : Int32)) (by decide) ?_
  exact k
theorem gX8_findNeeds_60 {d : Nat} {Q : Value → zm_S → Prop} {w : zm_S} {a1 : Int32} {a2 : Int32} {s0 : Int32} {s1 : Int32} {s2 : Int32} (hi61 : vp_in s2 7) (k : zm_T zd_H d mX8_findNeeds Q 23 [(0, .ref 0), (1, .int a1), (2, .int (a2 + (1 : Int32)))] [] (zm_pi w 13 (s2).toNatClampNeg (s1 ||| s0))) : zm_T zd_H d mX8_findNeeds Q 60 [(0, .ref 0), (1, .int a1), (2, .int a2)] [.int s0, .int s1, .int s2, .ref 13] w := by
  refine zm_ior dX8_findNeeds_60 ?_
  refine zm_iast dX8_findNeeds_61 zd_H13 hi61 ?_
  refine zm_iinc 2 dX8_findNeeds_62 (x := a2) (v := (a2 + (1 : Int32))) rfl rfl (Nat.le_of_ble_eq_true rfl) (ls' := [(2, .int (a2 + (1 : Int32))), (0, .ref 0), (1, .int a1)]) rfl ?_
  refine zm_goto 23 dX8_findNeeds_65 (by decide) ?_
  refine zm_sub [1, 2, 0] rfl ?_
  exact k
theorem gX8_findNeeds_68 {d : Nat} {Q : Value → zm_S → Prop} {w : zm_S} {a1 : Int32} (k : zm_T zd_H d mX8_findNeeds Q 6 [(0, .ref 0), (1, .int (a1 + (1 : Int32)))] [] w) : zm_T zd_H d mX8_findNeeds Q 68 [(0, .ref 0), (1, .int a1)] [] w := by
  refine zm_iinc 1 dX8_findNeeds_68 (x := a1) (v := (a1 + (1 : Int32))) rfl rfl (Nat.le_of_ble_eq_true rfl) (ls' := [(1, .int (a1 + (1 : Int32))), (0, .ref 0)]) rfl ?_
  refine zm_goto 6 dX8_findNeeds_71 (by decide) ?_
  refine zm_sub [1, 0] rfl ?_
  exact k
theorem gX8_findNeeds_74 {d : Nat} {Q : Value → zm_S → Prop} {w : zm_S} (k : Q .null w) : zm_T zd_H d mX8_findNeeds Q 74 [] [] w := by
  exact zm_return dX8_findNeeds_74 rfl k
theorem gX8_isState_0 {d : Nat} {Q : Value → zm_S → Prop} {w : zm_S} {a1 : Int32} (k : zm_T zd_H d mX8_isState Q 4 [(0, .ref 0), (1, .int a1), (2, .int (1 : Int32)), (3, .int (0 : Int32))] [] w) : zm_T zd_H d mX8_isState Q 0 [(0, .ref 0), (1, .int a1)] [] w := by
  refine zm_iconst dX8_isState_0 (v := (1 : Int32)) (by decide) ?_
  refine zm_istore_n dX8_isState_1 rfl (Nat.le_of_ble_eq_true rfl) (ls' := [(2, .int (1 : Int32)), (0, .ref 0), (1, .int a1)]) rfl ?_
  refine zm_iconst dX8_isState_2 (v := (0 : Int32)) (by decide) ?_
  refine zm_istore_n dX8_isState_3 rfl (Nat.le_of_ble_eq_true rfl) (ls' := [(3, .int (0 : Int32)), (2, .int (1 : Int32)), (0, .ref 0), (1, .int a1)]) rfl ?_
  refine zm_sub [2, 3, 1, 0] rfl ?_
  exact k
theorem gX8_isState_4 {d : Nat} {Q : Value → zm_S → Prop} {w : zm_S} {a1 : Int32} {a2 : Int32} {a3 : Int32} {Q' : Value → zm_S → Prop} (hC : zm_C zd_H d mX8_n [.ref 0] w Q') (k : ∀ (r : Int32) (u : zm_S), Q' (.int r) u → zm_T zd_H (d + 1) mX8_isState Q 9 [(0, .ref 0), (1, .int a1), (2, .int a2), (3, .int a3)] [.int r, .int a3] u) : zm_T zd_H (d + 1) mX8_isState Q 4 [(0, .ref 0), (1, .int a1), (2, .int a2), (3, .int a3)] [] w := by
  refine zm_iload_n (x := a3) 3 dX8_isState_4 rfl rfl ?_
  refine zm_aload_n (x := 0) 0 dX8_isState_5 rfl rfl ?_
  refine zm_callVi (as := []) (rest := [.int a3]) dX8_isState_6 rfl mtX8_n lkX8_111 zd_H0 (C := RX8) rfl rfl rfl (Nat.le_of_ble_eq_true rfl) hC rfl (fun r u hq => ?_)
  exact k r u hq
theorem gX8_isState_9 {d : Nat} {Q : Value → zm_S → Prop} {w : zm_S} {a1 : Int32} {a2 : Int32} {a3 : Int32} {s0 : Int32} {s1 : Int32} (kt : s0 ≤ s1 → zm_T zd_H d mX8_isState Q 49 [(2, .int a2)] [] w) (kf : ¬ s0 ≤ s1 → zm_T zd_H d mX8_isState Q 12 [(0, .ref 0), (1, .int a1), (2, .int a2), (3, .int a3)] [] w) : zm_T zd_H d mX8_isState Q 9 [(0, .ref 0), (1, .int a1), (2, .int a2), (3, .int a3)] [.int s0, .int s1] w := by
  refine zm_icmp_ge 49 dX8_isState_9 (by decide) (fun h => ?_) (fun h => ?_)
  · refine zm_sub [2] rfl ?_
    exact kt h
  · exact kf h
theorem gX8_isState_12 {d : Nat} {Q : Value → zm_S → Prop} {w : zm_S} {a1 : Int32} {a2 : Int32} {a3 : Int32} (kt : a2 = 0 → zm_T zd_H d mX8_isState Q 41 [(0, .ref 0), (1, .int a1), (3, .int a3)] [] w) (kf : ¬ a2 = 0 → zm_T zd_H d mX8_isState Q 16 [(0, .ref 0), (1, .int a1), (3, .int a3)] [] w) : zm_T zd_H d mX8_isState Q 12 [(0, .ref 0), (1, .int a1), (2, .int a2), (3, .int a3)] [] w := by
  refine zm_iload_n (x := a2) 2 dX8_isState_12 rfl rfl ?_
  refine zm_if_eq 41 dX8_isState_13 (by decide) (fun h => ?_) (fun h => ?_)
  · refine zm_sub [0, 1, 3] rfl ?_
    exact kt h
  · refine zm_sub [0, 1, 3] rfl ?_
    exact kf h
theorem gX8_isState_16 {d : Nat} {Q : Value → zm_S → Prop} {w : zm_S} {a1 : Int32} {a3 : Int32} {Q' : Value → zm_S → Prop} (hC : zm_C zd_H d mX8_isIn [.int a1, .int a3] w Q') (k : ∀ (r : Int32) (u : zm_S), Q' (.int r) u → zm_T zd_H (d + 1) mX8_isState Q 21 [(0, .ref 0), (1, .int a1), (3, .int a3)] [.int r] u) : zm_T zd_H (d + 1) mX8_isState Q 16 [(0, .ref 0), (1, .int a1), (3, .int a3)] [] w := by
  refine zm_iload_n (x := a1) 1 dX8_isState_16 rfl rfl ?_
  refine zm_iload_n (x := a3) 2 dX8_isState_17 rfl rfl ?_
  refine zm_callSz (as := [.int a1, .int a3]) (rest := []) dX8_isState_18 rfl mtX8_isIn lkX8_153 rfl (Nat.le_of_ble_eq_true rfl) hC rfl (fun r u hq => ?_)
  exact k r u hq
theorem gX8_isState_21 {d : Nat} {Q : Value → zm_S → Prop} {w : zm_S} {a1 : Int32} {a3 : Int32} {s0 : Int32} (kt : s0 = 0 → zm_T zd_H d mX8_isState Q 37 [(0, .ref 0), (1, .int a1), (3, .int a3)] [] w) (kf : ¬ s0 = 0 → zm_T zd_H d mX8_isState Q 24 [(0, .ref 0), (1, .int a1), (3, .int a3)] [] w) : zm_T zd_H d mX8_isState Q 21 [(0, .ref 0), (1, .int a1), (3, .int a3)] [.int s0] w := by
  refine zm_if_eq 37 dX8_isState_21 (by decide) (fun h => ?_) (fun h => ?_)
  · exact kt h
  · exact kf h
theorem gX8_isState_24 {d : Nat} {Q : Value → zm_S → Prop} {w : zm_S} {a1 : Int32} {a3 : Int32} (hi29 : vp_in a3 7) (kt : ¬ ((w.1 13 (a3).toNatClampNeg) &&& (a1 ^^^ (-1 : Int32))) = 0 → zm_T zd_H d mX8_isState Q 41 [(0, .ref 0), (1, .int a1), (3, .int a3)] [] w) (kf : ((w.1 13 (a3).toNatClampNeg) &&& (a1 ^^^ (-1 : Int32))) = 0 → zm_T zd_H d mX8_isState Q 37 [(0, .ref 0), (1, .int a1), (3, .int a3)] [] w) : zm_T zd_H d mX8_isState Q 24 [(0, .ref 0), (1, .int a1), (3, .int a3)] [] w := by
  refine zm_aload_n (x := 0) 0 dX8_isState_24 rfl rfl ?_
  refine zm_getf (v := .ref 13) (j := 17) dX8_isState_25 clX8 flX8_46 (Nat.le_of_ble_eq_true rfl) zd_H0 rfl rfl ?_
  refine zm_iload_n (x := a3) 2 dX8_isState_28 rfl rfl ?_
  refine zm_iald dX8_isState_29 zd_H13 hi29 ?_
  refine zm_iload_n (x := a1) 1 dX8_isState_30 rfl rfl ?_
  refine zm_iconst dX8_isState_31 (v := (-1 : Int32)) (by decide) ?_
  refine zm_ixor dX8_isState_32 ?_
  refine zm_iand dX8_isState_33 ?_
  refine zm_if_ne 41 dX8_isState_34 (by decide) (fun h => ?_) (fun h => ?_)
  · exact kt h
  · exact kf h
theorem gX8_isState_37 {d : Nat} {Q : Value → zm_S → Prop} {w : zm_S} {a1 : Int32} {a3 : Int32} (k : zm_T zd_H d mX8_isState Q 42 [(0, .ref 0), (1, .int a1), (3, .int a3)] [.int (1 : Int32)] w) : zm_T zd_H d mX8_isState Q 37 [(0, .ref 0), (1, .int a1), (3, .int a3)] [] w := by
  refine zm_iconst dX8_isState_37 (v := (1 : Int32)) (by decide) ?_
  refine zm_goto 42 dX8_isState_38 (by decide) ?_
  exact k
theorem gX8_isState_41 {d : Nat} {Q : Value → zm_S → Prop} {w : zm_S} {a1 : Int32} {a3 : Int32} (k : zm_T zd_H d mX8_isState Q 42 [(0, .ref 0), (1, .int a1), (3, .int a3)] [.int (0 : Int32)] w) : zm_T zd_H d mX8_isState Q 41 [(0, .ref 0), (1, .int a1), (3, .int a3)] [] w := by
  refine zm_iconst dX8_isState_41 (v := (0 : Int32)) (by decide) ?_
  exact k
theorem gX8_isState_42 {d : Nat} {Q : Value → zm_S → Prop} {w : zm_S} {a1 : Int32} {a3 : Int32} {s0 : Int32} (k : zm_T zd_H d mX8_isState Q 4 [(0, .ref 0), (1, .int a1), (2, .int s0), (3, .int (a3 + (1 : Int32)))] [] w) : zm_T zd_H d mX8_isState Q 42 [(0, .ref 0), (1, .int a1), (3, .int a3)] [.int s0] w := by
  refine zm_istore_n dX8_isState_42 rfl (Nat.le_of_ble_eq_true rfl) (ls' := [(2, .int s0), (0, .ref 0), (1, .int a1), (3, .int a3)]) rfl ?_
  refine zm_iinc 3 dX8_isState_43 (x := a3) (v := (a3 + (1 : Int32))) rfl rfl (Nat.le_of_ble_eq_true rfl) (ls' := [(3, .int (a3 + (1 : Int32))), (2, .int s0), (0, .ref 0), (1, .int a1)]) rfl ?_
  refine zm_goto 4 dX8_isState_46 (by decide) ?_
  refine zm_sub [2, 3, 1, 0] rfl ?_
  exact k
theorem gX8_isState_49 {d : Nat} {Q : Value → zm_S → Prop} {w : zm_S} {a2 : Int32} (hz : a2 &&& 1 = a2) (k : Q (.int a2) w) : zm_T zd_H d mX8_isState Q 49 [(2, .int a2)] [] w := by
  refine zm_iload_n (x := a2) 0 dX8_isState_49 rfl rfl ?_
  exact zm_zreturn dX8_isState_50 rfl hz k
theorem gX8_errorsOf_0 {d : Nat} {Q : Value → zm_S → Prop} {w : zm_S} {a1 : Int32} {a2 : Int32} {Q' : Value → zm_S → Prop} (hC : zm_C zd_H d mX8_bits [.ref 0, .int a1, .int (1 : Int32)] w Q') (k : ∀ (r : Int32) (u : zm_S), Q' (.int r) u → zm_T zd_H (d + 1) mX8_errorsOf Q 6 [(0, .ref 0), (1, .int a1), (2, .int a2)] [.int r] u) : zm_T zd_H (d + 1) mX8_errorsOf Q 0 [(0, .ref 0), (1, .int a1), (2, .int a2)] [] w := by
  refine zm_aload_n (x := 0) 0 dX8_errorsOf_0 rfl rfl ?_
  refine zm_iload_n (x := a1) 1 dX8_errorsOf_1 rfl rfl ?_
  refine zm_iconst dX8_errorsOf_2 (v := (1 : Int32)) (by decide) ?_
  refine zm_callVi (as := [.int a1, .int (1 : Int32)]) (rest := []) dX8_errorsOf_3 rfl mtX8_bits lkX8_189 zd_H0 (C := RX8) rfl rfl rfl (Nat.le_of_ble_eq_true rfl) hC rfl (fun r u hq => ?_)
  exact k r u hq
theorem gX8_errorsOf_6 {d : Nat} {Q : Value → zm_S → Prop} {w : zm_S} {a1 : Int32} {a2 : Int32} {s0 : Int32} {Q' : Value → zm_S → Prop} (hC : zm_C zd_H d mX8_ones [.int (s0 &&& (a2 ^^^ (-1 : Int32)))] w Q') (k : ∀ (r : Int32) (u : zm_S), Q' (.int r) u → zm_T zd_H (d + 1) mX8_errorsOf Q 13 [(0, .ref 0), (1, .int a1), (2, .int a2)] [.int r] u) : zm_T zd_H (d + 1) mX8_errorsOf Q 6 [(0, .ref 0), (1, .int a1), (2, .int a2)] [.int s0] w := by
  refine zm_iload_n (x := a2) 2 dX8_errorsOf_6 rfl rfl ?_
  refine zm_iconst dX8_errorsOf_7 (v := (-1 : Int32)) (by decide) ?_
  refine zm_ixor dX8_errorsOf_8 ?_
  refine zm_iand dX8_errorsOf_9 ?_
  refine zm_callSi (as := [.int (s0 &&& (a2 ^^^ (-1 : Int32)))]) (rest := []) dX8_errorsOf_10 rfl mtX8_ones lkX8_192 rfl (Nat.le_of_ble_eq_true rfl) hC rfl (fun r u hq => ?_)
  exact k r u hq
theorem gX8_errorsOf_13 {d : Nat} {Q : Value → zm_S → Prop} {w : zm_S} {a1 : Int32} {a2 : Int32} {s0 : Int32} {Q' : Value → zm_S → Prop} (hC : zm_C zd_H d mX8_bits [.ref 0, .int a1, .int (0 : Int32)] w Q') (k : ∀ (r : Int32) (u : zm_S), Q' (.int r) u → zm_T zd_H (d + 1) mX8_errorsOf Q 19 [(2, .int a2)] [.int r, .int s0] u) : zm_T zd_H (d + 1) mX8_errorsOf Q 13 [(0, .ref 0), (1, .int a1), (2, .int a2)] [.int s0] w := by
  refine zm_aload_n (x := 0) 0 dX8_errorsOf_13 rfl rfl ?_
  refine zm_iload_n (x := a1) 1 dX8_errorsOf_14 rfl rfl ?_
  refine zm_iconst dX8_errorsOf_15 (v := (0 : Int32)) (by decide) ?_
  refine zm_callVi (as := [.int a1, .int (0 : Int32)]) (rest := [.int s0]) dX8_errorsOf_16 rfl mtX8_bits lkX8_189 zd_H0 (C := RX8) rfl rfl rfl (Nat.le_of_ble_eq_true rfl) hC rfl (fun r u hq => ?_)
  refine zm_sub [2] rfl ?_
  exact k r u hq
theorem gX8_errorsOf_19 {d : Nat} {Q : Value → zm_S → Prop} {w : zm_S} {a2 : Int32} {s0 : Int32} {s1 : Int32} {Q' : Value → zm_S → Prop} (hC : zm_C zd_H d mX8_ones [.int (s0 &&& a2)] w Q') (k : ∀ (r : Int32) (u : zm_S), Q' (.int r) u → zm_T zd_H (d + 1) mX8_errorsOf Q 24 [] [.int r, .int s1] u) : zm_T zd_H (d + 1) mX8_errorsOf Q 19 [(2, .int a2)] [.int s0, .int s1] w := by
  refine zm_iload_n (x := a2) 0 dX8_errorsOf_19 rfl rfl ?_
  refine zm_iand dX8_errorsOf_20 ?_
  refine zm_callSi (as := [.int (s0 &&& a2)]) (rest := [.int s1]) dX8_errorsOf_21 rfl mtX8_ones lkX8_192 rfl (Nat.le_of_ble_eq_true rfl) hC rfl (fun r u hq => ?_)
  refine zm_sub [] rfl ?_
  exact k r u hq
theorem gX8_errorsOf_24 {d : Nat} {Q : Value → zm_S → Prop} {w : zm_S} {s0 : Int32} {s1 : Int32} (k : Q (.int (s1 + s0)) w) : zm_T zd_H d mX8_errorsOf Q 24 [] [.int s0, .int s1] w := by
  refine zm_iadd dX8_errorsOf_24 ?_
  exact zm_ireturn dX8_errorsOf_25 rfl k
theorem gX8_errors_0 {d : Nat} {Q : Value → zm_S → Prop} {w : zm_S} {a1 : Int32} {a2 : Int32} {Q' : Value → zm_S → Prop} (hC : zm_C zd_H d mX8_isPupil [.int a1] w Q') (k : ∀ (r : Int32) (u : zm_S), Q' (.int r) u → zm_T zd_H (d + 1) mX8_errors Q 4 [(0, .ref 0), (1, .int a1), (2, .int a2)] [.int r] u) : zm_T zd_H (d + 1) mX8_errors Q 0 [(0, .ref 0), (1, .int a1), (2, .int a2)] [] w := by
  refine zm_iload_n (x := a1) 1 dX8_errors_0 rfl rfl ?_
  refine zm_callSz (as := [.int a1]) (rest := []) dX8_errors_1 rfl mtX8_isPupil lkX8_123 rfl (Nat.le_of_ble_eq_true rfl) hC rfl (fun r u hq => ?_)
  exact k r u hq
theorem gX8_errors_4 {d : Nat} {Q : Value → zm_S → Prop} {w : zm_S} {a1 : Int32} {a2 : Int32} {s0 : Int32} (kt : s0 = 0 → zm_T zd_H d mX8_errors Q 19 [] [] w) (kf : ¬ s0 = 0 → zm_T zd_H d mX8_errors Q 7 [(0, .ref 0), (1, .int a1), (2, .int a2)] [] w) : zm_T zd_H d mX8_errors Q 4 [(0, .ref 0), (1, .int a1), (2, .int a2)] [.int s0] w := by
  refine zm_if_eq 19 dX8_errors_4 (by decide) (fun h => ?_) (fun h => ?_)
  · refine zm_sub [] rfl ?_
    exact kt h
  · exact kf h
theorem gX8_errors_7 {d : Nat} {Q : Value → zm_S → Prop} {w : zm_S} {a1 : Int32} {a2 : Int32} {Q' : Value → zm_S → Prop} (hC : zm_C zd_H d mX8_in [.long ((a2).toInt64), .long (0 : Int64), .long (127 : Int64)] w Q') (k : ∀ (r : Int32) (u : zm_S), Q' (.int r) u → zm_T zd_H (d + 1) mX8_errors Q 16 [(0, .ref 0), (1, .int a1), (2, .int a2)] [.int r] u) : zm_T zd_H (d + 1) mX8_errors Q 7 [(0, .ref 0), (1, .int a1), (2, .int a2)] [] w := by
  refine zm_iload_n (x := a2) 2 dX8_errors_7 rfl rfl ?_
  refine zm_i2l dX8_errors_8 ?_
  refine zm_lconst dX8_errors_9 (v := (0 : Int64)) (by decide) ?_
  refine zm_ldc2_w dX8_errors_10 kcX8_195 ?_
  refine zm_callSz (as := [.long ((a2).toInt64), .long (0 : Int64), .long (127 : Int64)]) (rest := []) dX8_errors_13 rfl mtX8_in lkX8_78 rfl (Nat.le_of_ble_eq_true rfl) hC rfl (fun r u hq => ?_)
  exact k r u hq
theorem gX8_errors_16 {d : Nat} {Q : Value → zm_S → Prop} {w : zm_S} {a1 : Int32} {a2 : Int32} {s0 : Int32} (kt : ¬ s0 = 0 → zm_T zd_H d mX8_errors Q 22 [(0, .ref 0), (1, .int a1), (2, .int a2)] [] w) (kf : s0 = 0 → zm_T zd_H d mX8_errors Q 19 [] [] w) : zm_T zd_H d mX8_errors Q 16 [(0, .ref 0), (1, .int a1), (2, .int a2)] [.int s0] w := by
  refine zm_if_ne 22 dX8_errors_16 (by decide) (fun h => ?_) (fun h => ?_)
  · exact kt h
  · refine zm_sub [] rfl ?_
    exact kf h
theorem gX8_errors_19 {d : Nat} {Q : Value → zm_S → Prop} {w : zm_S} (k : Q (.int (-2 : Int32)) w) : zm_T zd_H d mX8_errors Q 19 [] [] w := by
  refine zm_bipush dX8_errors_19 (v := (-2 : Int32)) (by decide) ?_
  exact zm_ireturn dX8_errors_21 rfl k
theorem gX8_errors_22 {d : Nat} {Q : Value → zm_S → Prop} {w : zm_S} {a1 : Int32} {a2 : Int32} {Q' : Value → zm_S → Prop} (hC : zm_C zd_H d mX8_findSays [.ref 0] w Q') (k : ∀ (u : zm_S), Q' .null u → zm_T zd_H (d + 1) mX8_errors Q 26 [(0, .ref 0), (1, .int a1), (2, .int a2)] [] u) : zm_T zd_H (d + 1) mX8_errors Q 22 [(0, .ref 0), (1, .int a1), (2, .int a2)] [] w := by
  refine zm_aload_n (x := 0) 0 dX8_errors_22 rfl rfl ?_
  refine zm_callVv (as := []) (rest := []) dX8_errors_23 rfl mtX8_findSays lkX8_136 zd_H0 (C := RX8) rfl rfl rfl (Nat.le_of_ble_eq_true rfl) hC rfl (fun u hq => ?_)
  exact k u hq
theorem gX8_errors_26 {d : Nat} {Q : Value → zm_S → Prop} {w : zm_S} {a1 : Int32} {a2 : Int32} {Q' : Value → zm_S → Prop} (hC : zm_C zd_H d mX8_errorsOf [.ref 0, .int a1, .int a2] w Q') (k : ∀ (r : Int32) (u : zm_S), Q' (.int r) u → zm_T zd_H (d + 1) mX8_errors Q 32 [] [.int r] u) : zm_T zd_H (d + 1) mX8_errors Q 26 [(0, .ref 0), (1, .int a1), (2, .int a2)] [] w := by
  refine zm_aload_n (x := 0) 0 dX8_errors_26 rfl rfl ?_
  refine zm_iload_n (x := a1) 1 dX8_errors_27 rfl rfl ?_
  refine zm_iload_n (x := a2) 2 dX8_errors_28 rfl rfl ?_
  refine zm_callVi (as := [.int a1, .int a2]) (rest := []) dX8_errors_29 rfl mtX8_errorsOf lkX8_197 zd_H0 (C := RX8) rfl rfl rfl (Nat.le_of_ble_eq_true rfl) hC rfl (fun r u hq => ?_)
  refine zm_sub [] rfl ?_
  exact k r u hq
theorem gX8_errors_32 {d : Nat} {Q : Value → zm_S → Prop} {w : zm_S} {s0 : Int32} (k : Q (.int s0) w) : zm_T zd_H d mX8_errors Q 32 [] [.int s0] w := by
  exact zm_ireturn dX8_errors_32 rfl k
theorem gX8_findWrong_0 {d : Nat} {Q : Value → zm_S → Prop} {w : zm_S} {a1 : Int32} {a2 : Int32} (k : zm_T zd_H d mX8_findWrong Q 2 [(0, .ref 0), (1, .int a1), (2, .int a2), (3, .int (0 : Int32))] [] w) : zm_T zd_H d mX8_findWrong Q 0 [(0, .ref 0), (1, .int a1), (2, .int a2)] [] w := by
  refine zm_iconst dX8_findWrong_0 (v := (0 : Int32)) (by decide) ?_
  refine zm_istore_n dX8_findWrong_1 rfl (Nat.le_of_ble_eq_true rfl) (ls' := [(3, .int (0 : Int32)), (0, .ref 0), (1, .int a1), (2, .int a2)]) rfl ?_
  refine zm_sub [1, 2, 3, 0] rfl ?_
  exact k
theorem gX8_findWrong_2 {d : Nat} {Q : Value → zm_S → Prop} {w : zm_S} {a1 : Int32} {a2 : Int32} {a3 : Int32} (kt : (12 : Int32) ≤ a3 → zm_T zd_H d mX8_findWrong Q 137 [] [] w) (kf : ¬ (12 : Int32) ≤ a3 → zm_T zd_H d mX8_findWrong Q 8 [(0, .ref 0), (1, .int a1), (2, .int a2), (3, .int a3)] [] w) : zm_T zd_H d mX8_findWrong Q 2 [(0, .ref 0), (1, .int a1), (2, .int a2), (3, .int a3)] [] w := by
  refine zm_iload_n (x := a3) 3 dX8_findWrong_2 rfl rfl ?_
  refine zm_bipush dX8_findWrong_3 (v := (12 : Int32)) (by decide) ?_
  refine zm_icmp_ge 137 dX8_findWrong_5 (by decide) (fun h => ?_) (fun h => ?_)
  · refine zm_sub [] rfl ?_
    exact kt h
  · exact kf h
theorem gX8_findWrong_8 {d : Nat} {Q : Value → zm_S → Prop} {w : zm_S} {a1 : Int32} {a2 : Int32} {a3 : Int32} {Q' : Value → zm_S → Prop} (hC : zm_C zd_H d mX8_bits [.ref 0, .int a3, .int (1 : Int32)] w Q') (k : ∀ (r : Int32) (u : zm_S), Q' (.int r) u → zm_T zd_H (d + 1) mX8_findWrong Q 14 [(0, .ref 0), (1, .int a1), (2, .int a2), (3, .int a3)] [.int r] u) : zm_T zd_H (d + 1) mX8_findWrong Q 8 [(0, .ref 0), (1, .int a1), (2, .int a2), (3, .int a3)] [] w := by
  refine zm_aload_n (x := 0) 0 dX8_findWrong_8 rfl rfl ?_
  refine zm_iload_n (x := a3) 3 dX8_findWrong_9 rfl rfl ?_
  refine zm_iconst dX8_findWrong_10 (v := (1 : Int32)) (by decide) ?_
  refine zm_callVi (as := [.int a3, .int (1 : Int32)]) (rest := []) dX8_findWrong_11 rfl mtX8_bits lkX8_189 zd_H0 (C := RX8) rfl rfl rfl (Nat.le_of_ble_eq_true rfl) hC rfl (fun r u hq => ?_)
  exact k r u hq
theorem gX8_findWrong_14 {d : Nat} {Q : Value → zm_S → Prop} {w : zm_S} {a1 : Int32} {a2 : Int32} {a3 : Int32} {s0 : Int32} {Q' : Value → zm_S → Prop} (hC : zm_C zd_H d mX8_bits [.ref 0, .int a3, .int (0 : Int32)] w Q') (k : ∀ (r : Int32) (u : zm_S), Q' (.int r) u → zm_T zd_H (d + 1) mX8_findWrong Q 22 [(0, .ref 0), (1, .int a1), (2, .int a2), (3, .int a3), (4, .int s0)] [.int r] u) : zm_T zd_H (d + 1) mX8_findWrong Q 14 [(0, .ref 0), (1, .int a1), (2, .int a2), (3, .int a3)] [.int s0] w := by
  refine zm_istore dX8_findWrong_14 (Nat.le_of_ble_eq_true rfl) (ls' := [(4, .int s0), (0, .ref 0), (1, .int a1), (2, .int a2), (3, .int a3)]) rfl ?_
  refine zm_aload_n (x := 0) 1 dX8_findWrong_16 rfl rfl ?_
  refine zm_iload_n (x := a3) 4 dX8_findWrong_17 rfl rfl ?_
  refine zm_iconst dX8_findWrong_18 (v := (0 : Int32)) (by decide) ?_
  refine zm_callVi (as := [.int a3, .int (0 : Int32)]) (rest := []) dX8_findWrong_19 rfl mtX8_bits lkX8_189 zd_H0 (C := RX8) rfl rfl rfl (Nat.le_of_ble_eq_true rfl) hC rfl (fun r u hq => ?_)
  refine zm_sub [1, 2, 3, 4, 0] rfl ?_
  exact k r u hq
theorem gX8_findWrong_22 {d : Nat} {Q : Value → zm_S → Prop} {w : zm_S} {a1 : Int32} {a2 : Int32} {a3 : Int32} {a4 : Int32} {s0 : Int32} (kt : a1 = (-1 : Int32) → zm_T zd_H d mX8_findWrong Q 49 [(0, .ref 0), (1, .int a1), (2, .int a2), (3, .int a3), (4, .int a4), (5, .int s0)] [] w) (kf : ¬ a1 = (-1 : Int32) → zm_T zd_H d mX8_findWrong Q 29 [(0, .ref 0), (1, .int a1), (2, .int a2), (3, .int a3), (4, .int a4), (5, .int s0)] [] w) : zm_T zd_H d mX8_findWrong Q 22 [(0, .ref 0), (1, .int a1), (2, .int a2), (3, .int a3), (4, .int a4)] [.int s0] w := by
  refine zm_istore dX8_findWrong_22 (Nat.le_of_ble_eq_true rfl) (ls' := [(5, .int s0), (0, .ref 0), (1, .int a1), (2, .int a2), (3, .int a3), (4, .int a4)]) rfl ?_
  refine zm_iload_n (x := a1) 2 dX8_findWrong_24 rfl rfl ?_
  refine zm_iconst dX8_findWrong_25 (v := (-1 : Int32)) (by decide) ?_
  refine zm_icmp_eq 49 dX8_findWrong_26 (by decide) (fun h => ?_) (fun h => ?_)
  · refine zm_sub [1, 2, 3, 4, 5, 0] rfl ?_
    exact kt h
  · refine zm_sub [1, 2, 3, 4, 5, 0] rfl ?_
    exact kf h
theorem gX8_findWrong_29 {d : Nat} {Q : Value → zm_S → Prop} {w : zm_S} {a1 : Int32} {a2 : Int32} {a3 : Int32} {a4 : Int32} {a5 : Int32} (k : zm_T zd_H d mX8_findWrong Q 49 [(0, .ref 0), (1, .int a1), (2, .int a2), (3, .int a3), (4, .int (a4 &&& (((1 : Int32) <<< (a1 &&& 31)) ^^^ (-1 : Int32)))), (5, .int (a5 &&& (((1 : Int32) <<< (a1 &&& 31)) ^^^ (-1 : Int32))))] [] w) : zm_T zd_H d mX8_findWrong Q 29 [(0, .ref 0), (1, .int a1), (2, .int a2), (3, .int a3), (4, .int a4), (5, .int a5)] [] w := by
  refine zm_iload (x := a4) 4 dX8_findWrong_29 rfl ?_
  refine zm_iconst dX8_findWrong_31 (v := (1 : Int32)) (by decide) ?_
  refine zm_iload_n (x := a1) 1 dX8_findWrong_32 rfl rfl ?_
  refine zm_ishl dX8_findWrong_33 ?_
  refine zm_iconst dX8_findWrong_34 (v := (-1 : Int32)) (by decide) ?_
  refine zm_ixor dX8_findWrong_35 ?_
  refine zm_iand dX8_findWrong_36 ?_
  refine zm_istore dX8_findWrong_37 (Nat.le_of_ble_eq_true rfl) (ls' := [(4, .int (a4 &&& (((1 : Int32) <<< (a1 &&& 31)) ^^^ (-1 : Int32)))), (0, .ref 0), (1, .int a1), (2, .int a2), (3, .int a3), (5, .int a5)]) rfl ?_
  refine zm_iload (x := a5) 5 dX8_findWrong_39 rfl ?_
  refine zm_iconst dX8_findWrong_41 (v := (1 : Int32)) (by decide) ?_
  refine zm_iload_n (x := a1) 2 dX8_findWrong_42 rfl rfl ?_
  refine zm_ishl dX8_findWrong_43 ?_
  refine zm_iconst dX8_findWrong_44 (v := (-1 : Int32)) (by decide) ?_
  refine zm_ixor dX8_findWrong_45 ?_
  refine zm_iand dX8_findWrong_46 ?_
  refine zm_istore dX8_findWrong_47 (Nat.le_of_ble_eq_true rfl) (ls' := [(5, .int (a5 &&& (((1 : Int32) <<< (a1 &&& 31)) ^^^ (-1 : Int32)))), (4, .int (a4 &&& (((1 : Int32) <<< (a1 &&& 31)) ^^^ (-1 : Int32)))), (0, .ref 0), (1, .int a1), (2, .int a2), (3, .int a3)]) rfl ?_
  refine zm_sub [2, 3, 4, 5, 1, 0] rfl ?_
  exact k
theorem gX8_findWrong_49 {d : Nat} {Q : Value → zm_S → Prop} {w : zm_S} {a1 : Int32} {a2 : Int32} {a3 : Int32} {a4 : Int32} {a5 : Int32} (kt : a2 = (-1 : Int32) → zm_T zd_H d mX8_findWrong Q 79 [(0, .ref 0), (1, .int a1), (2, .int a2), (3, .int a3), (4, .int a4), (5, .int a5)] [] w) (kf : ¬ a2 = (-1 : Int32) → zm_T zd_H d mX8_findWrong Q 54 [(0, .ref 0), (1, .int a1), (2, .int a2), (3, .int a3), (4, .int a4), (5, .int a5)] [] w) : zm_T zd_H d mX8_findWrong Q 49 [(0, .ref 0), (1, .int a1), (2, .int a2), (3, .int a3), (4, .int a4), (5, .int a5)] [] w := by
  refine zm_iload_n (x := a2) 2 dX8_findWrong_49 rfl rfl ?_
  refine zm_iconst dX8_findWrong_50 (v := (-1 : Int32)) (by decide) ?_
  refine zm_icmp_eq 79 dX8_findWrong_51 (by decide) (fun h => ?_) (fun h => ?_)
  · exact kt h
  · exact kf h
theorem gX8_findWrong_54 {d : Nat} {Q : Value → zm_S → Prop} {w : zm_S} {a1 : Int32} {a2 : Int32} {a3 : Int32} {a4 : Int32} {a5 : Int32} (k : zm_T zd_H d mX8_findWrong Q 79 [(0, .ref 0), (1, .int a1), (2, .int a2), (3, .int a3), (4, .int (a4 ^^^ ((a4 ^^^ a5) &&& ((1 : Int32) <<< (a2 &&& 31))))), (5, .int (a5 ^^^ ((a4 ^^^ a5) &&& ((1 : Int32) <<< (a2 &&& 31)))))] [] w) : zm_T zd_H d mX8_findWrong Q 54 [(0, .ref 0), (1, .int a1), (2, .int a2), (3, .int a3), (4, .int a4), (5, .int a5)] [] w := by
  refine zm_iload (x := a4) 4 dX8_findWrong_54 rfl ?_
  refine zm_iload (x := a5) 5 dX8_findWrong_56 rfl ?_
  refine zm_ixor dX8_findWrong_58 ?_
  refine zm_iconst dX8_findWrong_59 (v := (1 : Int32)) (by decide) ?_
  refine zm_iload_n (x := a2) 2 dX8_findWrong_60 rfl rfl ?_
  refine zm_ishl dX8_findWrong_61 ?_
  refine zm_iand dX8_findWrong_62 ?_
  refine zm_istore dX8_findWrong_63 (Nat.le_of_ble_eq_true rfl) (ls' := [(6, .int ((a4 ^^^ a5) &&& ((1 : Int32) <<< (a2 &&& 31)))), (0, .ref 0), (1, .int a1), (2, .int a2), (3, .int a3), (4, .int a4), (5, .int a5)]) rfl ?_
  refine zm_iload (x := a4) 5 dX8_findWrong_65 rfl ?_
  refine zm_iload (x := ((a4 ^^^ a5) &&& ((1 : Int32) <<< (a2 &&& 31)))) 0 dX8_findWrong_67 rfl ?_
  refine zm_ixor dX8_findWrong_69 ?_
  refine zm_istore dX8_findWrong_70 (Nat.le_of_ble_eq_true rfl) (ls' := [(4, .int (a4 ^^^ ((a4 ^^^ a5) &&& ((1 : Int32) <<< (a2 &&& 31))))), (6, .int ((a4 ^^^ a5) &&& ((1 : Int32) <<< (a2 &&& 31)))), (0, .ref 0), (1, .int a1), (2, .int a2), (3, .int a3), (5, .int a5)]) rfl ?_
  refine zm_iload (x := a5) 6 dX8_findWrong_72 rfl ?_
  refine zm_iload (x := ((a4 ^^^ a5) &&& ((1 : Int32) <<< (a2 &&& 31)))) 1 dX8_findWrong_74 rfl ?_
  refine zm_ixor dX8_findWrong_76 ?_
  refine zm_istore dX8_findWrong_77 (Nat.le_of_ble_eq_true rfl) (ls' := [(5, .int (a5 ^^^ ((a4 ^^^ a5) &&& ((1 : Int32) <<< (a2 &&& 31))))), (4, .int (a4 ^^^ ((a4 ^^^ a5) &&& ((1 : Int32) <<< (a2 &&& 31))))), (6, .int ((a4 ^^^ a5) &&& ((1 : Int32) <<< (a2 &&& 31)))), (0, .ref 0), (1, .int a1), (2, .int a2), (3, .int a3)]) rfl ?_
  refine zm_sub [3, 4, 5, 6, 1, 0] rfl ?_
  exact k
theorem gX8_findWrong_79 {d : Nat} {Q : Value → zm_S → Prop} {w : zm_S} {a1 : Int32} {a2 : Int32} {a3 : Int32} {a4 : Int32} {a5 : Int32} (k : zm_T zd_H d mX8_findWrong Q 82 [(0, .ref 0), (1, .int a1), (2, .int a2), (3, .int a3), (4, .int a4), (5, .int a5), (6, .int (0 : Int32))] [] w) : zm_T zd_H d mX8_findWrong Q 79 [(0, .ref 0), (1, .int a1), (2, .int a2), (3, .int a3), (4, .int a4), (5, .int a5)] [] w := by
  refine zm_iconst dX8_findWrong_79 (v := (0 : Int32)) (by decide) ?_
  refine zm_istore dX8_findWrong_80 (Nat.le_of_ble_eq_true rfl) (ls' := [(6, .int (0 : Int32)), (0, .ref 0), (1, .int a1), (2, .int a2), (3, .int a3), (4, .int a4), (5, .int a5)]) rfl ?_
  refine zm_sub [1, 2, 3, 4, 5, 6, 0] rfl ?_
  exact k
theorem gX8_findWrong_82 {d : Nat} {Q : Value → zm_S → Prop} {w : zm_S} {a1 : Int32} {a2 : Int32} {a3 : Int32} {a4 : Int32} {a5 : Int32} {a6 : Int32} {Q' : Value → zm_S → Prop} (hC : zm_C zd_H d mX8_n [.ref 0] w Q') (k : ∀ (r : Int32) (u : zm_S), Q' (.int r) u → zm_T zd_H (d + 1) mX8_findWrong Q 89 [(0, .ref 0), (1, .int a1), (2, .int a2), (3, .int a3), (4, .int a4), (5, .int a5), (6, .int a6)] [.int r, .int (1 : Int32), .int a6] u) : zm_T zd_H (d + 1) mX8_findWrong Q 82 [(0, .ref 0), (1, .int a1), (2, .int a2), (3, .int a3), (4, .int a4), (5, .int a5), (6, .int a6)] [] w := by
  refine zm_iload (x := a6) 6 dX8_findWrong_82 rfl ?_
  refine zm_iconst dX8_findWrong_84 (v := (1 : Int32)) (by decide) ?_
  refine zm_aload_n (x := 0) 0 dX8_findWrong_85 rfl rfl ?_
  refine zm_callVi (as := []) (rest := [.int (1 : Int32), .int a6]) dX8_findWrong_86 rfl mtX8_n lkX8_111 zd_H0 (C := RX8) rfl rfl rfl (Nat.le_of_ble_eq_true rfl) hC rfl (fun r u hq => ?_)
  exact k r u hq
theorem gX8_findWrong_89 {d : Nat} {Q : Value → zm_S → Prop} {w : zm_S} {a1 : Int32} {a2 : Int32} {a3 : Int32} {a4 : Int32} {a5 : Int32} {a6 : Int32} {s0 : Int32} {s1 : Int32} {s2 : Int32} (kt : (s1 <<< (s0 &&& 31)) ≤ s2 → zm_T zd_H d mX8_findWrong Q 131 [(0, .ref 0), (1, .int a1), (2, .int a2), (3, .int a3)] [] w) (kf : ¬ (s1 <<< (s0 &&& 31)) ≤ s2 → zm_T zd_H d mX8_findWrong Q 93 [(0, .ref 0), (1, .int a1), (2, .int a2), (3, .int a3), (4, .int a4), (5, .int a5), (6, .int a6)] [] w) : zm_T zd_H d mX8_findWrong Q 89 [(0, .ref 0), (1, .int a1), (2, .int a2), (3, .int a3), (4, .int a4), (5, .int a5), (6, .int a6)] [.int s0, .int s1, .int s2] w := by
  refine zm_ishl dX8_findWrong_89 ?_
  refine zm_icmp_ge 131 dX8_findWrong_90 (by decide) (fun h => ?_) (fun h => ?_)
  · refine zm_sub [0, 1, 2, 3] rfl ?_
    exact kt h
  · exact kf h
theorem gX8_findWrong_93 {d : Nat} {Q : Value → zm_S → Prop} {w : zm_S} {a1 : Int32} {a2 : Int32} {a3 : Int32} {a4 : Int32} {a5 : Int32} {a6 : Int32} {Q' : Value → zm_S → Prop} (hC : zm_C zd_H d mX8_ones [.int (a4 &&& (a6 ^^^ (-1 : Int32)))] w Q') (k : ∀ (r : Int32) (u : zm_S), Q' (.int r) u → zm_T zd_H (d + 1) mX8_findWrong Q 115 [(0, .ref 0), (1, .int a1), (2, .int a2), (3, .int a3), (4, .int a4), (5, .int a5), (6, .int a6)] [.int r, .int (((128 : Int32) * a3) + a6), .ref 14] u) : zm_T zd_H (d + 1) mX8_findWrong Q 93 [(0, .ref 0), (1, .int a1), (2, .int a2), (3, .int a3), (4, .int a4), (5, .int a5), (6, .int a6)] [] w := by
  refine zm_aload_n (x := 0) 0 dX8_findWrong_93 rfl rfl ?_
  refine zm_getf (v := .ref 14) (j := 18) dX8_findWrong_94 clX8 flX8_49 (Nat.le_of_ble_eq_true rfl) zd_H0 rfl rfl ?_
  refine zm_sipush dX8_findWrong_97 (v := (128 : Int32)) (by decide) ?_
  refine zm_iload_n (x := a3) 3 dX8_findWrong_100 rfl rfl ?_
  refine zm_imul dX8_findWrong_101 ?_
  refine zm_iload (x := a6) 6 dX8_findWrong_102 rfl ?_
  refine zm_iadd dX8_findWrong_104 ?_
  refine zm_iload (x := a4) 4 dX8_findWrong_105 rfl ?_
  refine zm_iload (x := a6) 6 dX8_findWrong_107 rfl ?_
  refine zm_iconst dX8_findWrong_109 (v := (-1 : Int32)) (by decide) ?_
  refine zm_ixor dX8_findWrong_110 ?_
  refine zm_iand dX8_findWrong_111 ?_
  refine zm_callSi (as := [.int (a4 &&& (a6 ^^^ (-1 : Int32)))]) (rest := [.int (((128 : Int32) * a3) + a6), .ref 14]) dX8_findWrong_112 rfl mtX8_ones lkX8_192 rfl (Nat.le_of_ble_eq_true rfl) hC rfl (fun r u hq => ?_)
  exact k r u hq
theorem gX8_findWrong_115 {d : Nat} {Q : Value → zm_S → Prop} {w : zm_S} {a1 : Int32} {a2 : Int32} {a3 : Int32} {a4 : Int32} {a5 : Int32} {a6 : Int32} {s0 : Int32} {s1 : Int32} {Q' : Value → zm_S → Prop} (hC : zm_C zd_H d mX8_ones [.int (a5 &&& a6)] w Q') (k : ∀ (r : Int32) (u : zm_S), Q' (.int r) u → zm_T zd_H (d + 1) mX8_findWrong Q 123 [(0, .ref 0), (1, .int a1), (2, .int a2), (3, .int a3), (4, .int a4), (5, .int a5), (6, .int a6)] [.int r, .int s0, .int s1, .ref 14] u) : zm_T zd_H (d + 1) mX8_findWrong Q 115 [(0, .ref 0), (1, .int a1), (2, .int a2), (3, .int a3), (4, .int a4), (5, .int a5), (6, .int a6)] [.int s0, .int s1, .ref 14] w := by
  refine zm_iload (x := a5) 5 dX8_findWrong_115 rfl ?_
  refine zm_iload (x := a6) 6 dX8_findWrong_117 rfl ?_
  refine zm_iand dX8_findWrong_119 ?_
  refine zm_callSi (as := [.int (a5 &&& a6)]) (rest := [.int s0, .int s1, .ref 14]) dX8_findWrong_120 rfl mtX8_ones lkX8_192 rfl (Nat.le_of_ble_eq_true rfl) hC rfl (fun r u hq => ?_)
  exact k r u hq
theorem gX8_findWrong_123 {d : Nat} {Q : Value → zm_S → Prop} {w : zm_S} {a1 : Int32} {a2 : Int32} {a3 : Int32} {a4 : Int32} {a5 : Int32} {a6 : Int32} {s0 : Int32} {s1 : Int32} {s2 : Int32} (hi124 : vp_in s2 1536) (k : zm_T zd_H d mX8_findWrong Q 82 [(0, .ref 0), (1, .int a1), (2, .int a2), (3, .int a3), (4, .int a4), (5, .int a5), (6, .int (a6 + (1 : Int32)))] [] (zm_pi w 14 (s2).toNatClampNeg (s1 + s0))) : zm_T zd_H d mX8_findWrong Q 123 [(0, .ref 0), (1, .int a1), (2, .int a2), (3, .int a3), (4, .int a4), (5, .int a5), (6, .int a6)] [.int s0, .int s1, .int s2, .ref 14] w := by
  refine zm_iadd dX8_findWrong_123 ?_
  refine zm_iast dX8_findWrong_124 zd_H14 hi124 ?_
  refine zm_iinc 6 dX8_findWrong_125 (x := a6) (v := (a6 + (1 : Int32))) rfl rfl (Nat.le_of_ble_eq_true rfl) (ls' := [(6, .int (a6 + (1 : Int32))), (0, .ref 0), (1, .int a1), (2, .int a2), (3, .int a3), (4, .int a4), (5, .int a5)]) rfl ?_
  refine zm_goto 82 dX8_findWrong_128 (by decide) ?_
  refine zm_sub [1, 2, 3, 4, 5, 6, 0] rfl ?_
  exact k
theorem gX8_findWrong_131 {d : Nat} {Q : Value → zm_S → Prop} {w : zm_S} {a1 : Int32} {a2 : Int32} {a3 : Int32} (k : zm_T zd_H d mX8_findWrong Q 2 [(0, .ref 0), (1, .int a1), (2, .int a2), (3, .int (a3 + (1 : Int32)))] [] w) : zm_T zd_H d mX8_findWrong Q 131 [(0, .ref 0), (1, .int a1), (2, .int a2), (3, .int a3)] [] w := by
  refine zm_iinc 3 dX8_findWrong_131 (x := a3) (v := (a3 + (1 : Int32))) rfl rfl (Nat.le_of_ble_eq_true rfl) (ls' := [(3, .int (a3 + (1 : Int32))), (0, .ref 0), (1, .int a1), (2, .int a2)]) rfl ?_
  refine zm_goto 2 dX8_findWrong_134 (by decide) ?_
  refine zm_sub [1, 2, 3, 0] rfl ?_
  exact k
theorem gX8_findWrong_137 {d : Nat} {Q : Value → zm_S → Prop} {w : zm_S} (k : Q .null w) : zm_T zd_H d mX8_findWrong Q 137 [] [] w := by
  exact zm_return dX8_findWrong_137 rfl k
theorem gX8_offNow_0 {d : Nat} {Q : Value → zm_S → Prop} {w : zm_S} {a1 : Int32} (k : zm_T zd_H d mX8_offNow Q 4 [(0, .ref 0), (1, .int a1), (2, .int (0 : Int32)), (3, .int (0 : Int32))] [] w) : zm_T zd_H d mX8_offNow Q 0 [(0, .ref 0), (1, .int a1)] [] w := by
  refine zm_iconst dX8_offNow_0 (v := (0 : Int32)) (by decide) ?_
  refine zm_istore_n dX8_offNow_1 rfl (Nat.le_of_ble_eq_true rfl) (ls' := [(2, .int (0 : Int32)), (0, .ref 0), (1, .int a1)]) rfl ?_
  refine zm_iconst dX8_offNow_2 (v := (0 : Int32)) (by decide) ?_
  refine zm_istore_n dX8_offNow_3 rfl (Nat.le_of_ble_eq_true rfl) (ls' := [(3, .int (0 : Int32)), (2, .int (0 : Int32)), (0, .ref 0), (1, .int a1)]) rfl ?_
  refine zm_sub [2, 3, 1, 0] rfl ?_
  exact k
theorem gX8_offNow_4 {d : Nat} {Q : Value → zm_S → Prop} {w : zm_S} {a1 : Int32} {a2 : Int32} {a3 : Int32} (kt : (12 : Int32) ≤ a3 → zm_T zd_H d mX8_offNow Q 96 [(2, .int a2)] [] w) (kf : ¬ (12 : Int32) ≤ a3 → zm_T zd_H d mX8_offNow Q 10 [(0, .ref 0), (1, .int a1), (2, .int a2), (3, .int a3)] [] w) : zm_T zd_H d mX8_offNow Q 4 [(0, .ref 0), (1, .int a1), (2, .int a2), (3, .int a3)] [] w := by
  refine zm_iload_n (x := a3) 3 dX8_offNow_4 rfl rfl ?_
  refine zm_bipush dX8_offNow_5 (v := (12 : Int32)) (by decide) ?_
  refine zm_icmp_ge 96 dX8_offNow_7 (by decide) (fun h => ?_) (fun h => ?_)
  · refine zm_sub [2] rfl ?_
    exact kt h
  · exact kf h
theorem gX8_offNow_10 {d : Nat} {Q : Value → zm_S → Prop} {w : zm_S} {a1 : Int32} {a2 : Int32} {a3 : Int32} (hi22 : vp_in ((128 : Int32) * a3) 1536) (k : zm_T zd_H d mX8_offNow Q 28 [(0, .ref 0), (1, .int a1), (2, .int a2), (3, .int a3), (4, .int (0 : Int32)), (5, .int (w.1 14 (((128 : Int32) * a3)).toNatClampNeg)), (6, .int (0 : Int32))] [] w) : zm_T zd_H d mX8_offNow Q 10 [(0, .ref 0), (1, .int a1), (2, .int a2), (3, .int a3)] [] w := by
  refine zm_iconst dX8_offNow_10 (v := (0 : Int32)) (by decide) ?_
  refine zm_istore dX8_offNow_11 (Nat.le_of_ble_eq_true rfl) (ls' := [(4, .int (0 : Int32)), (0, .ref 0), (1, .int a1), (2, .int a2), (3, .int a3)]) rfl ?_
  refine zm_aload_n (x := 0) 1 dX8_offNow_13 rfl rfl ?_
  refine zm_getf (v := .ref 14) (j := 18) dX8_offNow_14 clX8 flX8_49 (Nat.le_of_ble_eq_true rfl) zd_H0 rfl rfl ?_
  refine zm_sipush dX8_offNow_17 (v := (128 : Int32)) (by decide) ?_
  refine zm_iload_n (x := a3) 4 dX8_offNow_20 rfl rfl ?_
  refine zm_imul dX8_offNow_21 ?_
  refine zm_iald dX8_offNow_22 zd_H14 hi22 ?_
  refine zm_istore dX8_offNow_23 (Nat.le_of_ble_eq_true rfl) (ls' := [(5, .int (w.1 14 (((128 : Int32) * a3)).toNatClampNeg)), (4, .int (0 : Int32)), (0, .ref 0), (1, .int a1), (2, .int a2), (3, .int a3)]) rfl ?_
  refine zm_iconst dX8_offNow_25 (v := (0 : Int32)) (by decide) ?_
  refine zm_istore dX8_offNow_26 (Nat.le_of_ble_eq_true rfl) (ls' := [(6, .int (0 : Int32)), (5, .int (w.1 14 (((128 : Int32) * a3)).toNatClampNeg)), (4, .int (0 : Int32)), (0, .ref 0), (1, .int a1), (2, .int a2), (3, .int a3)]) rfl ?_
  refine zm_sub [3, 4, 5, 6, 2, 1, 0] rfl ?_
  exact k
theorem gX8_offNow_28 {d : Nat} {Q : Value → zm_S → Prop} {w : zm_S} {a1 : Int32} {a2 : Int32} {a3 : Int32} {a4 : Int32} {a5 : Int32} {a6 : Int32} (kt : a1 ≤ a6 → zm_T zd_H d mX8_offNow Q 85 [(0, .ref 0), (1, .int a1), (2, .int a2), (3, .int a3), (5, .int a5)] [] w) (kf : ¬ a1 ≤ a6 → zm_T zd_H d mX8_offNow Q 34 [(0, .ref 0), (1, .int a1), (2, .int a2), (3, .int a3), (4, .int a4), (5, .int a5), (6, .int a6)] [] w) : zm_T zd_H d mX8_offNow Q 28 [(0, .ref 0), (1, .int a1), (2, .int a2), (3, .int a3), (4, .int a4), (5, .int a5), (6, .int a6)] [] w := by
  refine zm_iload (x := a6) 6 dX8_offNow_28 rfl ?_
  refine zm_iload_n (x := a1) 1 dX8_offNow_30 rfl rfl ?_
  refine zm_icmp_ge 85 dX8_offNow_31 (by decide) (fun h => ?_) (fun h => ?_)
  · refine zm_sub [0, 1, 2, 3, 5] rfl ?_
    exact kt h
  · exact kf h
theorem gX8_offNow_34 {d : Nat} {Q : Value → zm_S → Prop} {w : zm_S} {a1 : Int32} {a2 : Int32} {a3 : Int32} {a4 : Int32} {a5 : Int32} {a6 : Int32} (hi43 : vp_in a6 7) (hi60 : vp_in (((128 : Int32) * a3) + (a4 ||| ((1 : Int32) <<< ((w.1 15 (a6).toNatClampNeg) &&& 31)))) 1536) (kt : a5 ≤ (w.1 14 ((((128 : Int32) * a3) + (a4 ||| ((1 : Int32) <<< ((w.1 15 (a6).toNatClampNeg) &&& 31))))).toNatClampNeg) → zm_T zd_H d mX8_offNow Q 75 [(0, .ref 0), (1, .int a1), (2, .int a2), (3, .int a3), (4, .int (a4 ||| ((1 : Int32) <<< ((w.1 15 (a6).toNatClampNeg) &&& 31)))), (5, .int a5), (6, .int a6)] [] w) (kf : ¬ a5 ≤ (w.1 14 ((((128 : Int32) * a3) + (a4 ||| ((1 : Int32) <<< ((w.1 15 (a6).toNatClampNeg) &&& 31))))).toNatClampNeg) → zm_T zd_H d mX8_offNow Q 70 [(0, .ref 0), (1, .int a1), (2, .int a2), (3, .int a3), (4, .int (a4 ||| ((1 : Int32) <<< ((w.1 15 (a6).toNatClampNeg) &&& 31)))), (6, .int a6), (7, .int (w.1 14 ((((128 : Int32) * a3) + (a4 ||| ((1 : Int32) <<< ((w.1 15 (a6).toNatClampNeg) &&& 31))))).toNatClampNeg))] [] w) : zm_T zd_H d mX8_offNow Q 34 [(0, .ref 0), (1, .int a1), (2, .int a2), (3, .int a3), (4, .int a4), (5, .int a5), (6, .int a6)] [] w := by
  refine zm_iload (x := a4) 4 dX8_offNow_34 rfl ?_
  refine zm_iconst dX8_offNow_36 (v := (1 : Int32)) (by decide) ?_
  refine zm_aload_n (x := 0) 0 dX8_offNow_37 rfl rfl ?_
  refine zm_getf (v := .ref 15) (j := 19) dX8_offNow_38 clX8 flX8_52 (Nat.le_of_ble_eq_true rfl) zd_H0 rfl rfl ?_
  refine zm_iload (x := a6) 6 dX8_offNow_41 rfl ?_
  refine zm_iald dX8_offNow_43 zd_H15 hi43 ?_
  refine zm_ishl dX8_offNow_44 ?_
  refine zm_ior dX8_offNow_45 ?_
  refine zm_istore dX8_offNow_46 (Nat.le_of_ble_eq_true rfl) (ls' := [(4, .int (a4 ||| ((1 : Int32) <<< ((w.1 15 (a6).toNatClampNeg) &&& 31)))), (0, .ref 0), (1, .int a1), (2, .int a2), (3, .int a3), (5, .int a5), (6, .int a6)]) rfl ?_
  refine zm_aload_n (x := 0) 1 dX8_offNow_48 rfl rfl ?_
  refine zm_getf (v := .ref 14) (j := 18) dX8_offNow_49 clX8 flX8_49 (Nat.le_of_ble_eq_true rfl) zd_H0 rfl rfl ?_
  refine zm_sipush dX8_offNow_52 (v := (128 : Int32)) (by decide) ?_
  refine zm_iload_n (x := a3) 4 dX8_offNow_55 rfl rfl ?_
  refine zm_imul dX8_offNow_56 ?_
  refine zm_iload (x := (a4 ||| ((1 : Int32) <<< ((w.1 15 (a6).toNatClampNeg) &&& 31)))) 0 dX8_offNow_57 rfl ?_
  refine zm_iadd dX8_offNow_59 ?_
  refine zm_iald dX8_offNow_60 zd_H14 hi60 ?_
  refine zm_istore dX8_offNow_61 (Nat.le_of_ble_eq_true rfl) (ls' := [(7, .int (w.1 14 ((((128 : Int32) * a3) + (a4 ||| ((1 : Int32) <<< ((w.1 15 (a6).toNatClampNeg) &&& 31))))).toNatClampNeg)), (4, .int (a4 ||| ((1 : Int32) <<< ((w.1 15 (a6).toNatClampNeg) &&& 31)))), (0, .ref 0), (1, .int a1), (2, .int a2), (3, .int a3), (5, .int a5), (6, .int a6)]) rfl ?_
  refine zm_iload (x := (w.1 14 ((((128 : Int32) * a3) + (a4 ||| ((1 : Int32) <<< ((w.1 15 (a6).toNatClampNeg) &&& 31))))).toNatClampNeg)) 0 dX8_offNow_63 rfl ?_
  refine zm_iload (x := a5) 6 dX8_offNow_65 rfl ?_
  refine zm_icmp_ge 75 dX8_offNow_67 (by decide) (fun h => ?_) (fun h => ?_)
  · refine zm_sub [2, 3, 4, 5, 1, 6, 7] rfl ?_
    exact kt h
  · refine zm_sub [2, 3, 4, 5, 1, 7, 0] rfl ?_
    exact kf h
theorem gX8_offNow_70 {d : Nat} {Q : Value → zm_S → Prop} {w : zm_S} {a1 : Int32} {a2 : Int32} {a3 : Int32} {a4 : Int32} {a6 : Int32} {a7 : Int32} (k : zm_T zd_H d mX8_offNow Q 77 [(0, .ref 0), (1, .int a1), (2, .int a2), (3, .int a3), (4, .int a4), (6, .int a6)] [.int a7] w) : zm_T zd_H d mX8_offNow Q 70 [(0, .ref 0), (1, .int a1), (2, .int a2), (3, .int a3), (4, .int a4), (6, .int a6), (7, .int a7)] [] w := by
  refine zm_iload (x := a7) 6 dX8_offNow_70 rfl ?_
  refine zm_goto 77 dX8_offNow_72 (by decide) ?_
  refine zm_sub [0, 1, 2, 3, 4, 5] rfl ?_
  exact k
theorem gX8_offNow_75 {d : Nat} {Q : Value → zm_S → Prop} {w : zm_S} {a1 : Int32} {a2 : Int32} {a3 : Int32} {a4 : Int32} {a5 : Int32} {a6 : Int32} (k : zm_T zd_H d mX8_offNow Q 77 [(0, .ref 0), (1, .int a1), (2, .int a2), (3, .int a3), (4, .int a4), (6, .int a6)] [.int a5] w) : zm_T zd_H d mX8_offNow Q 75 [(0, .ref 0), (1, .int a1), (2, .int a2), (3, .int a3), (4, .int a4), (5, .int a5), (6, .int a6)] [] w := by
  refine zm_iload (x := a5) 5 dX8_offNow_75 rfl ?_
  refine zm_sub [0, 1, 2, 3, 4, 6] rfl ?_
  exact k
theorem gX8_offNow_77 {d : Nat} {Q : Value → zm_S → Prop} {w : zm_S} {a1 : Int32} {a2 : Int32} {a3 : Int32} {a4 : Int32} {a6 : Int32} {s0 : Int32} (k : zm_T zd_H d mX8_offNow Q 28 [(0, .ref 0), (1, .int a1), (2, .int a2), (3, .int a3), (4, .int a4), (5, .int s0), (6, .int (a6 + (1 : Int32)))] [] w) : zm_T zd_H d mX8_offNow Q 77 [(0, .ref 0), (1, .int a1), (2, .int a2), (3, .int a3), (4, .int a4), (6, .int a6)] [.int s0] w := by
  refine zm_istore dX8_offNow_77 (Nat.le_of_ble_eq_true rfl) (ls' := [(5, .int s0), (0, .ref 0), (1, .int a1), (2, .int a2), (3, .int a3), (4, .int a4), (6, .int a6)]) rfl ?_
  refine zm_iinc 6 dX8_offNow_79 (x := a6) (v := (a6 + (1 : Int32))) rfl rfl (Nat.le_of_ble_eq_true rfl) (ls' := [(6, .int (a6 + (1 : Int32))), (5, .int s0), (0, .ref 0), (1, .int a1), (2, .int a2), (3, .int a3), (4, .int a4)]) rfl ?_
  refine zm_goto 28 dX8_offNow_82 (by decide) ?_
  refine zm_sub [2, 3, 4, 5, 6, 1, 0] rfl ?_
  exact k
theorem gX8_offNow_85 {d : Nat} {Q : Value → zm_S → Prop} {w : zm_S} {a1 : Int32} {a2 : Int32} {a3 : Int32} {a5 : Int32} (k : zm_T zd_H d mX8_offNow Q 4 [(0, .ref 0), (1, .int a1), (2, .int (a2 + a5)), (3, .int (a3 + (1 : Int32)))] [] w) : zm_T zd_H d mX8_offNow Q 85 [(0, .ref 0), (1, .int a1), (2, .int a2), (3, .int a3), (5, .int a5)] [] w := by
  refine zm_iload_n (x := a2) 2 dX8_offNow_85 rfl rfl ?_
  refine zm_iload (x := a5) 4 dX8_offNow_86 rfl ?_
  refine zm_iadd dX8_offNow_88 ?_
  refine zm_istore_n dX8_offNow_89 rfl (Nat.le_of_ble_eq_true rfl) (ls' := [(2, .int (a2 + a5)), (0, .ref 0), (1, .int a1), (3, .int a3), (5, .int a5)]) rfl ?_
  refine zm_iinc 3 dX8_offNow_90 (x := a3) (v := (a3 + (1 : Int32))) rfl rfl (Nat.le_of_ble_eq_true rfl) (ls' := [(3, .int (a3 + (1 : Int32))), (2, .int (a2 + a5)), (0, .ref 0), (1, .int a1), (5, .int a5)]) rfl ?_
  refine zm_goto 4 dX8_offNow_93 (by decide) ?_
  refine zm_sub [2, 3, 1, 0] rfl ?_
  exact k
theorem gX8_offNow_96 {d : Nat} {Q : Value → zm_S → Prop} {w : zm_S} {a2 : Int32} (k : Q (.int a2) w) : zm_T zd_H d mX8_offNow Q 96 [(2, .int a2)] [] w := by
  refine zm_iload_n (x := a2) 0 dX8_offNow_96 rfl rfl ?_
  exact zm_ireturn dX8_offNow_97 rfl k
theorem gX8_goesOn_0 {d : Nat} {Q : Value → zm_S → Prop} {w : zm_S} {a1 : Int32} (k : zm_T zd_H d mX8_goesOn Q 4 [(0, .ref 0), (1, .int a1), (2, .int (a1 - (2 : Int32)))] [] w) : zm_T zd_H d mX8_goesOn Q 0 [(0, .ref 0), (1, .int a1)] [] w := by
  refine zm_iload_n (x := a1) 1 dX8_goesOn_0 rfl rfl ?_
  refine zm_iconst dX8_goesOn_1 (v := (2 : Int32)) (by decide) ?_
  refine zm_isub dX8_goesOn_2 ?_
  refine zm_istore_n dX8_goesOn_3 rfl (Nat.le_of_ble_eq_true rfl) (ls' := [(2, .int (a1 - (2 : Int32))), (0, .ref 0), (1, .int a1)]) rfl ?_
  refine zm_sub [1, 2, 0] rfl ?_
  exact k
theorem gX8_goesOn_4 {d : Nat} {Q : Value → zm_S → Prop} {w : zm_S} {a1 : Int32} {a2 : Int32} (kt : a2 < 0 → zm_T zd_H d mX8_goesOn Q 31 [(0, .ref 0), (1, .int a1), (2, .int a2)] [] w) (kf : ¬ a2 < 0 → zm_T zd_H d mX8_goesOn Q 8 [(0, .ref 0), (1, .int a1), (2, .int a2)] [] w) : zm_T zd_H d mX8_goesOn Q 4 [(0, .ref 0), (1, .int a1), (2, .int a2)] [] w := by
  refine zm_iload_n (x := a2) 2 dX8_goesOn_4 rfl rfl ?_
  refine zm_if_lt 31 dX8_goesOn_5 (by decide) (fun h => ?_) (fun h => ?_)
  · exact kt h
  · exact kf h
theorem gX8_goesOn_8 {d : Nat} {Q : Value → zm_S → Prop} {w : zm_S} {a1 : Int32} {a2 : Int32} (hi13 : vp_in a2 7) (hi21 : vp_in (a2 + (1 : Int32)) 7) (kt : (w.1 15 (a2).toNatClampNeg) ≤ (w.1 15 ((a2 + (1 : Int32))).toNatClampNeg) → zm_T zd_H d mX8_goesOn Q 31 [(0, .ref 0), (1, .int a1), (2, .int a2)] [] w) (kf : ¬ (w.1 15 (a2).toNatClampNeg) ≤ (w.1 15 ((a2 + (1 : Int32))).toNatClampNeg) → zm_T zd_H d mX8_goesOn Q 25 [(0, .ref 0), (1, .int a1), (2, .int a2)] [] w) : zm_T zd_H d mX8_goesOn Q 8 [(0, .ref 0), (1, .int a1), (2, .int a2)] [] w := by
  refine zm_aload_n (x := 0) 0 dX8_goesOn_8 rfl rfl ?_
  refine zm_getf (v := .ref 15) (j := 19) dX8_goesOn_9 clX8 flX8_52 (Nat.le_of_ble_eq_true rfl) zd_H0 rfl rfl ?_
  refine zm_iload_n (x := a2) 2 dX8_goesOn_12 rfl rfl ?_
  refine zm_iald dX8_goesOn_13 zd_H15 hi13 ?_
  refine zm_aload_n (x := 0) 0 dX8_goesOn_14 rfl rfl ?_
  refine zm_getf (v := .ref 15) (j := 19) dX8_goesOn_15 clX8 flX8_52 (Nat.le_of_ble_eq_true rfl) zd_H0 rfl rfl ?_
  refine zm_iload_n (x := a2) 2 dX8_goesOn_18 rfl rfl ?_
  refine zm_iconst dX8_goesOn_19 (v := (1 : Int32)) (by decide) ?_
  refine zm_iadd dX8_goesOn_20 ?_
  refine zm_iald dX8_goesOn_21 zd_H15 hi21 ?_
  refine zm_icmp_le 31 dX8_goesOn_22 (by decide) (fun h => ?_) (fun h => ?_)
  · exact kt h
  · exact kf h
theorem gX8_goesOn_25 {d : Nat} {Q : Value → zm_S → Prop} {w : zm_S} {a1 : Int32} {a2 : Int32} (k : zm_T zd_H d mX8_goesOn Q 4 [(0, .ref 0), (1, .int a1), (2, .int (a2 + (-1 : Int32)))] [] w) : zm_T zd_H d mX8_goesOn Q 25 [(0, .ref 0), (1, .int a1), (2, .int a2)] [] w := by
  refine zm_iinc 2 dX8_goesOn_25 (x := a2) (v := (a2 + (-1 : Int32))) rfl rfl (Nat.le_of_ble_eq_true rfl) (ls' := [(2, .int (a2 + (-1 : Int32))), (0, .ref 0), (1, .int a1)]) rfl ?_
  refine zm_goto 4 dX8_goesOn_28 (by decide) ?_
  refine zm_sub [1, 2, 0] rfl ?_
  exact k
theorem gX8_goesOn_31 {d : Nat} {Q : Value → zm_S → Prop} {w : zm_S} {a1 : Int32} {a2 : Int32} (kt : 0 ≤ a2 → zm_T zd_H d mX8_goesOn Q 37 [(0, .ref 0), (1, .int a1), (2, .int a2)] [] w) (kf : ¬ 0 ≤ a2 → zm_T zd_H d mX8_goesOn Q 35 [] [] w) : zm_T zd_H d mX8_goesOn Q 31 [(0, .ref 0), (1, .int a1), (2, .int a2)] [] w := by
  refine zm_iload_n (x := a2) 2 dX8_goesOn_31 rfl rfl ?_
  refine zm_if_ge 37 dX8_goesOn_32 (by decide) (fun h => ?_) (fun h => ?_)
  · exact kt h
  · refine zm_sub [] rfl ?_
    exact kf h
theorem gX8_goesOn_35 {d : Nat} {Q : Value → zm_S → Prop} {w : zm_S} (k : Q (.int (0 : Int32)) w) : zm_T zd_H d mX8_goesOn Q 35 [] [] w := by
  refine zm_iconst dX8_goesOn_35 (v := (0 : Int32)) (by decide) ?_
  exact zm_zreturn dX8_goesOn_36 rfl (by decide) k
theorem gX8_goesOn_37 {d : Nat} {Q : Value → zm_S → Prop} {w : zm_S} {a1 : Int32} {a2 : Int32} (k : zm_T zd_H d mX8_goesOn Q 41 [(0, .ref 0), (1, .int a1), (2, .int a2), (3, .int (a1 - (1 : Int32)))] [] w) : zm_T zd_H d mX8_goesOn Q 37 [(0, .ref 0), (1, .int a1), (2, .int a2)] [] w := by
  refine zm_iload_n (x := a1) 1 dX8_goesOn_37 rfl rfl ?_
  refine zm_iconst dX8_goesOn_38 (v := (1 : Int32)) (by decide) ?_
  refine zm_isub dX8_goesOn_39 ?_
  refine zm_istore_n dX8_goesOn_40 rfl (Nat.le_of_ble_eq_true rfl) (ls' := [(3, .int (a1 - (1 : Int32))), (0, .ref 0), (1, .int a1), (2, .int a2)]) rfl ?_
  refine zm_sub [1, 2, 3, 0] rfl ?_
  exact k
theorem gX8_goesOn_41 {d : Nat} {Q : Value → zm_S → Prop} {w : zm_S} {a1 : Int32} {a2 : Int32} {a3 : Int32} (hi46 : vp_in a3 7) (hi52 : vp_in a2 7) (kt : (w.1 15 (a2).toNatClampNeg) ≤ (w.1 15 (a3).toNatClampNeg) → zm_T zd_H d mX8_goesOn Q 62 [(0, .ref 0), (1, .int a1), (2, .int a2), (3, .int a3)] [] w) (kf : ¬ (w.1 15 (a2).toNatClampNeg) ≤ (w.1 15 (a3).toNatClampNeg) → zm_T zd_H d mX8_goesOn Q 56 [(0, .ref 0), (1, .int a1), (2, .int a2), (3, .int a3)] [] w) : zm_T zd_H d mX8_goesOn Q 41 [(0, .ref 0), (1, .int a1), (2, .int a2), (3, .int a3)] [] w := by
  refine zm_aload_n (x := 0) 0 dX8_goesOn_41 rfl rfl ?_
  refine zm_getf (v := .ref 15) (j := 19) dX8_goesOn_42 clX8 flX8_52 (Nat.le_of_ble_eq_true rfl) zd_H0 rfl rfl ?_
  refine zm_iload_n (x := a3) 3 dX8_goesOn_45 rfl rfl ?_
  refine zm_iald dX8_goesOn_46 zd_H15 hi46 ?_
  refine zm_aload_n (x := 0) 0 dX8_goesOn_47 rfl rfl ?_
  refine zm_getf (v := .ref 15) (j := 19) dX8_goesOn_48 clX8 flX8_52 (Nat.le_of_ble_eq_true rfl) zd_H0 rfl rfl ?_
  refine zm_iload_n (x := a2) 2 dX8_goesOn_51 rfl rfl ?_
  refine zm_iald dX8_goesOn_52 zd_H15 hi52 ?_
  refine zm_icmp_ge 62 dX8_goesOn_53 (by decide) (fun h => ?_) (fun h => ?_)
  · exact kt h
  · exact kf h
theorem gX8_goesOn_56 {d : Nat} {Q : Value → zm_S → Prop} {w : zm_S} {a1 : Int32} {a2 : Int32} {a3 : Int32} (k : zm_T zd_H d mX8_goesOn Q 41 [(0, .ref 0), (1, .int a1), (2, .int a2), (3, .int (a3 + (-1 : Int32)))] [] w) : zm_T zd_H d mX8_goesOn Q 56 [(0, .ref 0), (1, .int a1), (2, .int a2), (3, .int a3)] [] w := by
  refine zm_iinc 3 dX8_goesOn_56 (x := a3) (v := (a3 + (-1 : Int32))) rfl rfl (Nat.le_of_ble_eq_true rfl) (ls' := [(3, .int (a3 + (-1 : Int32))), (0, .ref 0), (1, .int a1), (2, .int a2)]) rfl ?_
  refine zm_goto 41 dX8_goesOn_59 (by decide) ?_
  refine zm_sub [1, 2, 3, 0] rfl ?_
  exact k
theorem gX8_goesOn_62 {d : Nat} {Q : Value → zm_S → Prop} {w : zm_S} {a1 : Int32} {a2 : Int32} {a3 : Int32} {Q' : Value → zm_S → Prop} (hC : zm_C zd_H d mX8_swaps [.ref 0, .int a2, .int a3] w Q') (k : ∀ (u : zm_S), Q' .null u → zm_T zd_H (d + 1) mX8_goesOn Q 68 [(0, .ref 0), (1, .int a1), (2, .int a2)] [] u) : zm_T zd_H (d + 1) mX8_goesOn Q 62 [(0, .ref 0), (1, .int a1), (2, .int a2), (3, .int a3)] [] w := by
  refine zm_aload_n (x := 0) 0 dX8_goesOn_62 rfl rfl ?_
  refine zm_iload_n (x := a2) 2 dX8_goesOn_63 rfl rfl ?_
  refine zm_iload_n (x := a3) 3 dX8_goesOn_64 rfl rfl ?_
  refine zm_callVv (as := [.int a2, .int a3]) (rest := []) dX8_goesOn_65 rfl mtX8_swaps lkX8_200 zd_H0 (C := RX8) rfl rfl rfl (Nat.le_of_ble_eq_true rfl) hC rfl (fun u hq => ?_)
  refine zm_sub [0, 1, 2] rfl ?_
  exact k u hq
theorem gX8_goesOn_68 {d : Nat} {Q : Value → zm_S → Prop} {w : zm_S} {a1 : Int32} {a2 : Int32} (k : zm_T zd_H d mX8_goesOn Q 78 [(0, .ref 0), (4, .int (a2 + (1 : Int32))), (5, .int (a1 - (1 : Int32)))] [] w) : zm_T zd_H d mX8_goesOn Q 68 [(0, .ref 0), (1, .int a1), (2, .int a2)] [] w := by
  refine zm_iload_n (x := a2) 2 dX8_goesOn_68 rfl rfl ?_
  refine zm_iconst dX8_goesOn_69 (v := (1 : Int32)) (by decide) ?_
  refine zm_iadd dX8_goesOn_70 ?_
  refine zm_istore dX8_goesOn_71 (Nat.le_of_ble_eq_true rfl) (ls' := [(4, .int (a2 + (1 : Int32))), (0, .ref 0), (1, .int a1), (2, .int a2)]) rfl ?_
  refine zm_iload_n (x := a1) 2 dX8_goesOn_73 rfl rfl ?_
  refine zm_iconst dX8_goesOn_74 (v := (1 : Int32)) (by decide) ?_
  refine zm_isub dX8_goesOn_75 ?_
  refine zm_istore dX8_goesOn_76 (Nat.le_of_ble_eq_true rfl) (ls' := [(5, .int (a1 - (1 : Int32))), (4, .int (a2 + (1 : Int32))), (0, .ref 0), (1, .int a1), (2, .int a2)]) rfl ?_
  refine zm_sub [2, 1, 0] rfl ?_
  exact k
theorem gX8_goesOn_78 {d : Nat} {Q : Value → zm_S → Prop} {w : zm_S} {a4 : Int32} {a5 : Int32} (kt : a5 ≤ a4 → zm_T zd_H d mX8_goesOn Q 102 [] [] w) (kf : ¬ a5 ≤ a4 → zm_T zd_H d mX8_goesOn Q 85 [(0, .ref 0), (4, .int a4), (5, .int a5)] [] w) : zm_T zd_H d mX8_goesOn Q 78 [(0, .ref 0), (4, .int a4), (5, .int a5)] [] w := by
  refine zm_iload (x := a4) 1 dX8_goesOn_78 rfl ?_
  refine zm_iload (x := a5) 2 dX8_goesOn_80 rfl ?_
  refine zm_icmp_ge 102 dX8_goesOn_82 (by decide) (fun h => ?_) (fun h => ?_)
  · refine zm_sub [] rfl ?_
    exact kt h
  · exact kf h
theorem gX8_goesOn_85 {d : Nat} {Q : Value → zm_S → Prop} {w : zm_S} {a4 : Int32} {a5 : Int32} {Q' : Value → zm_S → Prop} (hC : zm_C zd_H d mX8_swaps [.ref 0, .int a4, .int a5] w Q') (k : ∀ (u : zm_S), Q' .null u → zm_T zd_H (d + 1) mX8_goesOn Q 93 [(0, .ref 0), (4, .int a4), (5, .int a5)] [] u) : zm_T zd_H (d + 1) mX8_goesOn Q 85 [(0, .ref 0), (4, .int a4), (5, .int a5)] [] w := by
  refine zm_aload_n (x := 0) 0 dX8_goesOn_85 rfl rfl ?_
  refine zm_iload (x := a4) 1 dX8_goesOn_86 rfl ?_
  refine zm_iload (x := a5) 2 dX8_goesOn_88 rfl ?_
  refine zm_callVv (as := [.int a4, .int a5]) (rest := []) dX8_goesOn_90 rfl mtX8_swaps lkX8_200 zd_H0 (C := RX8) rfl rfl rfl (Nat.le_of_ble_eq_true rfl) hC rfl (fun u hq => ?_)
  exact k u hq
theorem gX8_goesOn_93 {d : Nat} {Q : Value → zm_S → Prop} {w : zm_S} {a4 : Int32} {a5 : Int32} (k : zm_T zd_H d mX8_goesOn Q 78 [(0, .ref 0), (4, .int (a4 + (1 : Int32))), (5, .int (a5 + (-1 : Int32)))] [] w) : zm_T zd_H d mX8_goesOn Q 93 [(0, .ref 0), (4, .int a4), (5, .int a5)] [] w := by
  refine zm_iinc 1 dX8_goesOn_93 (x := a4) (v := (a4 + (1 : Int32))) rfl rfl (Nat.le_of_ble_eq_true rfl) (ls' := [(4, .int (a4 + (1 : Int32))), (0, .ref 0), (5, .int a5)]) rfl ?_
  refine zm_iinc 2 dX8_goesOn_96 (x := a5) (v := (a5 + (-1 : Int32))) rfl rfl (Nat.le_of_ble_eq_true rfl) (ls' := [(5, .int (a5 + (-1 : Int32))), (4, .int (a4 + (1 : Int32))), (0, .ref 0)]) rfl ?_
  refine zm_goto 78 dX8_goesOn_99 (by decide) ?_
  refine zm_sub [2, 1, 0] rfl ?_
  exact k
theorem gX8_goesOn_102 {d : Nat} {Q : Value → zm_S → Prop} {w : zm_S} (k : Q (.int (1 : Int32)) w) : zm_T zd_H d mX8_goesOn Q 102 [] [] w := by
  refine zm_iconst dX8_goesOn_102 (v := (1 : Int32)) (by decide) ?_
  exact zm_zreturn dX8_goesOn_103 rfl (by decide) k
theorem gX8_swaps_0 {d : Nat} {Q : Value → zm_S → Prop} {w : zm_S} {a1 : Int32} {a2 : Int32} (hi5 : vp_in a1 7) (hi17 : vp_in a2 7) (hi18 : vp_in a1 7) (hi25 : vp_in a2 7) (k : Q .null (zm_pi (zm_pi w 15 (a1).toNatClampNeg (w.1 15 (a2).toNatClampNeg)) 15 (a2).toNatClampNeg (w.1 15 (a1).toNatClampNeg))) : zm_T zd_H d mX8_swaps Q 0 [(0, .ref 0), (1, .int a1), (2, .int a2)] [] w := by
  refine zm_aload_n (x := 0) 0 dX8_swaps_0 rfl rfl ?_
  refine zm_getf (v := .ref 15) (j := 19) dX8_swaps_1 clX8 flX8_52 (Nat.le_of_ble_eq_true rfl) zd_H0 rfl rfl ?_
  refine zm_iload_n (x := a1) 1 dX8_swaps_4 rfl rfl ?_
  refine zm_iald dX8_swaps_5 zd_H15 hi5 ?_
  refine zm_istore_n dX8_swaps_6 rfl (Nat.le_of_ble_eq_true rfl) (ls' := [(3, .int (w.1 15 (a1).toNatClampNeg)), (0, .ref 0), (1, .int a1), (2, .int a2)]) rfl ?_
  refine zm_aload_n (x := 0) 1 dX8_swaps_7 rfl rfl ?_
  refine zm_getf (v := .ref 15) (j := 19) dX8_swaps_8 clX8 flX8_52 (Nat.le_of_ble_eq_true rfl) zd_H0 rfl rfl ?_
  refine zm_iload_n (x := a1) 2 dX8_swaps_11 rfl rfl ?_
  refine zm_aload_n (x := 0) 1 dX8_swaps_12 rfl rfl ?_
  refine zm_getf (v := .ref 15) (j := 19) dX8_swaps_13 clX8 flX8_52 (Nat.le_of_ble_eq_true rfl) zd_H0 rfl rfl ?_
  refine zm_iload_n (x := a2) 3 dX8_swaps_16 rfl rfl ?_
  refine zm_iald dX8_swaps_17 zd_H15 hi17 ?_
  refine zm_iast dX8_swaps_18 zd_H15 hi18 ?_
  refine zm_aload_n (x := 0) 1 dX8_swaps_19 rfl rfl ?_
  refine zm_getf (v := .ref 15) (j := 19) dX8_swaps_20 clX8 flX8_52 (Nat.le_of_ble_eq_true rfl) zd_H0 rfl rfl ?_
  refine zm_iload_n (x := a2) 3 dX8_swaps_23 rfl rfl ?_
  refine zm_iload_n (x := (w.1 15 (a1).toNatClampNeg)) 0 dX8_swaps_24 rfl rfl ?_
  refine zm_iast dX8_swaps_25 zd_H15 hi25 ?_
  exact zm_return dX8_swaps_26 rfl k
theorem gX8_findOrder_0 {d : Nat} {Q : Value → zm_S → Prop} {w : zm_S} {a1 : Int32} {a2 : Int32} {Q' : Value → zm_S → Prop} (hC : zm_C zd_H d mX8_findWrong [.ref 0, .int a1, .int a2] w Q') (k : ∀ (u : zm_S), Q' .null u → zm_T zd_H (d + 1) mX8_findOrder Q 6 [(0, .ref 0), (1, .int a1)] [] u) : zm_T zd_H (d + 1) mX8_findOrder Q 0 [(0, .ref 0), (1, .int a1), (2, .int a2)] [] w := by
  refine zm_aload_n (x := 0) 0 dX8_findOrder_0 rfl rfl ?_
  refine zm_iload_n (x := a1) 1 dX8_findOrder_1 rfl rfl ?_
  refine zm_iload_n (x := a2) 2 dX8_findOrder_2 rfl rfl ?_
  refine zm_callVv (as := [.int a1, .int a2]) (rest := []) dX8_findOrder_3 rfl mtX8_findWrong lkX8_204 zd_H0 (C := RX8) rfl rfl rfl (Nat.le_of_ble_eq_true rfl) hC rfl (fun u hq => ?_)
  refine zm_sub [0, 1] rfl ?_
  exact k u hq
theorem gX8_findOrder_6 {d : Nat} {Q : Value → zm_S → Prop} {w : zm_S} {a1 : Int32} (k : zm_T zd_H d mX8_findOrder Q 11 [(0, .ref 0), (1, .int a1), (3, .int (0 : Int32)), (4, .int (0 : Int32))] [] w) : zm_T zd_H d mX8_findOrder Q 6 [(0, .ref 0), (1, .int a1)] [] w := by
  refine zm_iconst dX8_findOrder_6 (v := (0 : Int32)) (by decide) ?_
  refine zm_istore_n dX8_findOrder_7 rfl (Nat.le_of_ble_eq_true rfl) (ls' := [(3, .int (0 : Int32)), (0, .ref 0), (1, .int a1)]) rfl ?_
  refine zm_iconst dX8_findOrder_8 (v := (0 : Int32)) (by decide) ?_
  refine zm_istore dX8_findOrder_9 (Nat.le_of_ble_eq_true rfl) (ls' := [(4, .int (0 : Int32)), (3, .int (0 : Int32)), (0, .ref 0), (1, .int a1)]) rfl ?_
  refine zm_sub [2, 3, 1, 0] rfl ?_
  exact k
theorem gX8_findOrder_11 {d : Nat} {Q : Value → zm_S → Prop} {w : zm_S} {a1 : Int32} {a3 : Int32} {a4 : Int32} {Q' : Value → zm_S → Prop} (hC : zm_C zd_H d mX8_n [.ref 0] w Q') (k : ∀ (r : Int32) (u : zm_S), Q' (.int r) u → zm_T zd_H (d + 1) mX8_findOrder Q 17 [(0, .ref 0), (1, .int a1), (3, .int a3), (4, .int a4)] [.int r, .int a4] u) : zm_T zd_H (d + 1) mX8_findOrder Q 11 [(0, .ref 0), (1, .int a1), (3, .int a3), (4, .int a4)] [] w := by
  refine zm_iload (x := a4) 3 dX8_findOrder_11 rfl ?_
  refine zm_aload_n (x := 0) 0 dX8_findOrder_13 rfl rfl ?_
  refine zm_callVi (as := []) (rest := [.int a4]) dX8_findOrder_14 rfl mtX8_n lkX8_111 zd_H0 (C := RX8) rfl rfl rfl (Nat.le_of_ble_eq_true rfl) hC rfl (fun r u hq => ?_)
  exact k r u hq
theorem gX8_findOrder_17 {d : Nat} {Q : Value → zm_S → Prop} {w : zm_S} {a1 : Int32} {a3 : Int32} {a4 : Int32} {s0 : Int32} {s1 : Int32} (kt : s0 ≤ s1 → zm_T zd_H d mX8_findOrder Q 43 [(0, .ref 0), (3, .int a3)] [] w) (kf : ¬ s0 ≤ s1 → zm_T zd_H d mX8_findOrder Q 20 [(0, .ref 0), (1, .int a1), (3, .int a3), (4, .int a4)] [] w) : zm_T zd_H d mX8_findOrder Q 17 [(0, .ref 0), (1, .int a1), (3, .int a3), (4, .int a4)] [.int s0, .int s1] w := by
  refine zm_icmp_ge 43 dX8_findOrder_17 (by decide) (fun h => ?_) (fun h => ?_)
  · refine zm_sub [0, 2] rfl ?_
    exact kt h
  · exact kf h
theorem gX8_findOrder_20 {d : Nat} {Q : Value → zm_S → Prop} {w : zm_S} {a1 : Int32} {a3 : Int32} {a4 : Int32} (kt : a4 = a1 → zm_T zd_H d mX8_findOrder Q 37 [(0, .ref 0), (1, .int a1), (3, .int a3), (4, .int a4)] [] w) (kf : ¬ a4 = a1 → zm_T zd_H d mX8_findOrder Q 26 [(0, .ref 0), (1, .int a1), (3, .int a3), (4, .int a4)] [] w) : zm_T zd_H d mX8_findOrder Q 20 [(0, .ref 0), (1, .int a1), (3, .int a3), (4, .int a4)] [] w := by
  refine zm_iload (x := a4) 3 dX8_findOrder_20 rfl ?_
  refine zm_iload_n (x := a1) 1 dX8_findOrder_22 rfl rfl ?_
  refine zm_icmp_eq 37 dX8_findOrder_23 (by decide) (fun h => ?_) (fun h => ?_)
  · exact kt h
  · exact kf h
theorem gX8_findOrder_26 {d : Nat} {Q : Value → zm_S → Prop} {w : zm_S} {a1 : Int32} {a3 : Int32} {a4 : Int32} (hi33 : vp_in a3 7) (k : zm_T zd_H d mX8_findOrder Q 37 [(0, .ref 0), (1, .int a1), (3, .int (a3 + (1 : Int32))), (4, .int a4)] [] (zm_pi w 15 (a3).toNatClampNeg a4)) : zm_T zd_H d mX8_findOrder Q 26 [(0, .ref 0), (1, .int a1), (3, .int a3), (4, .int a4)] [] w := by
  refine zm_aload_n (x := 0) 0 dX8_findOrder_26 rfl rfl ?_
  refine zm_getf (v := .ref 15) (j := 19) dX8_findOrder_27 clX8 flX8_52 (Nat.le_of_ble_eq_true rfl) zd_H0 rfl rfl ?_
  refine zm_iload_n (x := a3) 2 dX8_findOrder_30 rfl rfl ?_
  refine zm_iload (x := a4) 3 dX8_findOrder_31 rfl ?_
  refine zm_iast dX8_findOrder_33 zd_H15 hi33 ?_
  refine zm_iinc 2 dX8_findOrder_34 (x := a3) (v := (a3 + (1 : Int32))) rfl rfl (Nat.le_of_ble_eq_true rfl) (ls' := [(3, .int (a3 + (1 : Int32))), (0, .ref 0), (1, .int a1), (4, .int a4)]) rfl ?_
  refine zm_sub [1, 2, 0, 3] rfl ?_
  exact k
theorem gX8_findOrder_37 {d : Nat} {Q : Value → zm_S → Prop} {w : zm_S} {a1 : Int32} {a3 : Int32} {a4 : Int32} (k : zm_T zd_H d mX8_findOrder Q 11 [(0, .ref 0), (1, .int a1), (3, .int a3), (4, .int (a4 + (1 : Int32)))] [] w) : zm_T zd_H d mX8_findOrder Q 37 [(0, .ref 0), (1, .int a1), (3, .int a3), (4, .int a4)] [] w := by
  refine zm_iinc 3 dX8_findOrder_37 (x := a4) (v := (a4 + (1 : Int32))) rfl rfl (Nat.le_of_ble_eq_true rfl) (ls' := [(4, .int (a4 + (1 : Int32))), (0, .ref 0), (1, .int a1), (3, .int a3)]) rfl ?_
  refine zm_goto 11 dX8_findOrder_40 (by decide) ?_
  refine zm_sub [1, 2, 3, 0] rfl ?_
  exact k
theorem gX8_findOrder_43 {d : Nat} {Q : Value → zm_S → Prop} {w : zm_S} {a3 : Int32} (k : zm_T zd_H d mX8_findOrder Q 58 [(0, .ref 0), (3, .int a3), (4, .int (1 : Int32))] [] (zm_pi (zm_pi w 0 21 (10000 : Int32)) 0 22 (0 : Int32))) : zm_T zd_H d mX8_findOrder Q 43 [(0, .ref 0), (3, .int a3)] [] w := by
  refine zm_aload_n (x := 0) 0 dX8_findOrder_43 rfl rfl ?_
  refine zm_sipush dX8_findOrder_44 (v := (10000 : Int32)) (by decide) ?_
  refine zm_putf (j := 21) (ty := .int) dX8_findOrder_47 clX8 flX8_207 (Nat.le_of_ble_eq_true rfl) zd_H0 rfl rfl (by decide +kernel) rfl rfl ?_
  refine zm_aload_n (x := 0) 0 dX8_findOrder_50 rfl rfl ?_
  refine zm_iconst dX8_findOrder_51 (v := (0 : Int32)) (by decide) ?_
  refine zm_putf (j := 22) (ty := .int) dX8_findOrder_52 clX8 flX8_210 (Nat.le_of_ble_eq_true rfl) zd_H0 rfl rfl (by decide +kernel) rfl rfl ?_
  refine zm_iconst dX8_findOrder_55 (v := (1 : Int32)) (by decide) ?_
  refine zm_istore dX8_findOrder_56 (Nat.le_of_ble_eq_true rfl) (ls' := [(4, .int (1 : Int32)), (0, .ref 0), (3, .int a3)]) rfl ?_
  refine zm_sub [1, 2, 0] rfl ?_
  exact k
theorem gX8_findOrder_58 {d : Nat} {Q : Value → zm_S → Prop} {w : zm_S} {a3 : Int32} {a4 : Int32} (kt : a4 = 0 → zm_T zd_H d mX8_findOrder Q 152 [] [] w) (kf : ¬ a4 = 0 → zm_T zd_H d mX8_findOrder Q 63 [(0, .ref 0), (3, .int a3)] [] w) : zm_T zd_H d mX8_findOrder Q 58 [(0, .ref 0), (3, .int a3), (4, .int a4)] [] w := by
  refine zm_iload (x := a4) 2 dX8_findOrder_58 rfl ?_
  refine zm_if_eq 152 dX8_findOrder_60 (by decide) (fun h => ?_) (fun h => ?_)
  · refine zm_sub [] rfl ?_
    exact kt h
  · refine zm_sub [0, 1] rfl ?_
    exact kf h
theorem gX8_findOrder_63 {d : Nat} {Q : Value → zm_S → Prop} {w : zm_S} {a3 : Int32} {Q' : Value → zm_S → Prop} (hC : zm_C zd_H d mX8_offNow [.ref 0, .int a3] w Q') (k : ∀ (r : Int32) (u : zm_S), Q' (.int r) u → zm_T zd_H (d + 1) mX8_findOrder Q 68 [(0, .ref 0), (3, .int a3)] [.int r] u) : zm_T zd_H (d + 1) mX8_findOrder Q 63 [(0, .ref 0), (3, .int a3)] [] w := by
  refine zm_aload_n (x := 0) 0 dX8_findOrder_63 rfl rfl ?_
  refine zm_iload_n (x := a3) 1 dX8_findOrder_64 rfl rfl ?_
  refine zm_callVi (as := [.int a3]) (rest := []) dX8_findOrder_65 rfl mtX8_offNow lkX8_213 zd_H0 (C := RX8) rfl rfl rfl (Nat.le_of_ble_eq_true rfl) hC rfl (fun r u hq => ?_)
  exact k r u hq
theorem gX8_findOrder_68 {d : Nat} {Q : Value → zm_S → Prop} {w : zm_S} {a3 : Int32} {s0 : Int32} (kt : (w.1 0 21) ≤ s0 → zm_T zd_H d mX8_findOrder Q 119 [(0, .ref 0), (3, .int a3), (5, .int s0)] [] w) (kf : ¬ (w.1 0 21) ≤ s0 → zm_T zd_H d mX8_findOrder Q 79 [(0, .ref 0), (3, .int a3), (5, .int s0)] [] w) : zm_T zd_H d mX8_findOrder Q 68 [(0, .ref 0), (3, .int a3)] [.int s0] w := by
  refine zm_istore dX8_findOrder_68 (Nat.le_of_ble_eq_true rfl) (ls' := [(5, .int s0), (0, .ref 0), (3, .int a3)]) rfl ?_
  refine zm_iload (x := s0) 0 dX8_findOrder_70 rfl ?_
  refine zm_aload_n (x := 0) 1 dX8_findOrder_72 rfl rfl ?_
  refine zm_getf (v := .int (w.1 0 21)) (j := 21) dX8_findOrder_73 clX8 flX8_207 (Nat.le_of_ble_eq_true rfl) zd_H0 rfl rfl ?_
  refine zm_icmp_ge 119 dX8_findOrder_76 (by decide) (fun h => ?_) (fun h => ?_)
  · refine zm_sub [1, 2, 0] rfl ?_
    exact kt h
  · refine zm_sub [1, 2, 0] rfl ?_
    exact kf h
theorem gX8_findOrder_79 {d : Nat} {Q : Value → zm_S → Prop} {w : zm_S} {a3 : Int32} {a5 : Int32} (k : zm_T zd_H d mX8_findOrder Q 93 [(0, .ref 0), (3, .int a3), (5, .int a5), (6, .int (0 : Int32))] [] (zm_pi (zm_pi w 0 21 a5) 0 22 (0 : Int32))) : zm_T zd_H d mX8_findOrder Q 79 [(0, .ref 0), (3, .int a3), (5, .int a5)] [] w := by
  refine zm_aload_n (x := 0) 0 dX8_findOrder_79 rfl rfl ?_
  refine zm_iload (x := a5) 2 dX8_findOrder_80 rfl ?_
  refine zm_putf (j := 21) (ty := .int) dX8_findOrder_82 clX8 flX8_207 (Nat.le_of_ble_eq_true rfl) zd_H0 rfl rfl (by decide +kernel) rfl rfl ?_
  refine zm_aload_n (x := 0) 0 dX8_findOrder_85 rfl rfl ?_
  refine zm_iconst dX8_findOrder_86 (v := (0 : Int32)) (by decide) ?_
  refine zm_putf (j := 22) (ty := .int) dX8_findOrder_87 clX8 flX8_210 (Nat.le_of_ble_eq_true rfl) zd_H0 rfl rfl (by decide +kernel) rfl rfl ?_
  refine zm_iconst dX8_findOrder_90 (v := (0 : Int32)) (by decide) ?_
  refine zm_istore dX8_findOrder_91 (Nat.le_of_ble_eq_true rfl) (ls' := [(6, .int (0 : Int32)), (0, .ref 0), (3, .int a3), (5, .int a5)]) rfl ?_
  refine zm_sub [1, 2, 3, 0] rfl ?_
  exact k
theorem gX8_findOrder_93 {d : Nat} {Q : Value → zm_S → Prop} {w : zm_S} {a3 : Int32} {a5 : Int32} {a6 : Int32} (kt : a3 ≤ a6 → zm_T zd_H d mX8_findOrder Q 119 [(0, .ref 0), (3, .int a3), (5, .int a5)] [] w) (kf : ¬ a3 ≤ a6 → zm_T zd_H d mX8_findOrder Q 99 [(0, .ref 0), (3, .int a3), (5, .int a5), (6, .int a6)] [] w) : zm_T zd_H d mX8_findOrder Q 93 [(0, .ref 0), (3, .int a3), (5, .int a5), (6, .int a6)] [] w := by
  refine zm_iload (x := a6) 3 dX8_findOrder_93 rfl ?_
  refine zm_iload_n (x := a3) 1 dX8_findOrder_95 rfl rfl ?_
  refine zm_icmp_ge 119 dX8_findOrder_96 (by decide) (fun h => ?_) (fun h => ?_)
  · refine zm_sub [0, 1, 2] rfl ?_
    exact kt h
  · exact kf h
theorem gX8_findOrder_99 {d : Nat} {Q : Value → zm_S → Prop} {w : zm_S} {a3 : Int32} {a5 : Int32} {a6 : Int32} (hi111 : vp_in a6 7) (hi112 : vp_in a6 7) (k : zm_T zd_H d mX8_findOrder Q 93 [(0, .ref 0), (3, .int a3), (5, .int a5), (6, .int (a6 + (1 : Int32)))] [] (zm_pi w 16 (a6).toNatClampNeg (w.1 15 (a6).toNatClampNeg))) : zm_T zd_H d mX8_findOrder Q 99 [(0, .ref 0), (3, .int a3), (5, .int a5), (6, .int a6)] [] w := by
  refine zm_aload_n (x := 0) 0 dX8_findOrder_99 rfl rfl ?_
  refine zm_getf (v := .ref 16) (j := 20) dX8_findOrder_100 clX8 flX8_55 (Nat.le_of_ble_eq_true rfl) zd_H0 rfl rfl ?_
  refine zm_iload (x := a6) 3 dX8_findOrder_103 rfl ?_
  refine zm_aload_n (x := 0) 0 dX8_findOrder_105 rfl rfl ?_
  refine zm_getf (v := .ref 15) (j := 19) dX8_findOrder_106 clX8 flX8_52 (Nat.le_of_ble_eq_true rfl) zd_H0 rfl rfl ?_
  refine zm_iload (x := a6) 3 dX8_findOrder_109 rfl ?_
  refine zm_iald dX8_findOrder_111 zd_H15 hi111 ?_
  refine zm_iast dX8_findOrder_112 zd_H16 hi112 ?_
  refine zm_iinc 3 dX8_findOrder_113 (x := a6) (v := (a6 + (1 : Int32))) rfl rfl (Nat.le_of_ble_eq_true rfl) (ls' := [(6, .int (a6 + (1 : Int32))), (0, .ref 0), (3, .int a3), (5, .int a5)]) rfl ?_
  refine zm_goto 93 dX8_findOrder_116 (by decide) ?_
  refine zm_sub [1, 2, 3, 0] rfl ?_
  exact k
theorem gX8_findOrder_119 {d : Nat} {Q : Value → zm_S → Prop} {w : zm_S} {a3 : Int32} {a5 : Int32} (kt : ¬ a5 = (w.1 0 21) → zm_T zd_H d mX8_findOrder Q 137 [(0, .ref 0), (3, .int a3)] [.int (w.1 0 22), .ref 0] w) (kf : a5 = (w.1 0 21) → zm_T zd_H d mX8_findOrder Q 133 [(0, .ref 0), (3, .int a3)] [.int (w.1 0 22), .ref 0] w) : zm_T zd_H d mX8_findOrder Q 119 [(0, .ref 0), (3, .int a3), (5, .int a5)] [] w := by
  refine zm_aload_n (x := 0) 0 dX8_findOrder_119 rfl rfl ?_
  refine zm_dup dX8_findOrder_120 rfl ?_
  refine zm_getf (v := .int (w.1 0 22)) (j := 22) dX8_findOrder_121 clX8 flX8_210 (Nat.le_of_ble_eq_true rfl) zd_H0 rfl rfl ?_
  refine zm_iload (x := a5) 2 dX8_findOrder_124 rfl ?_
  refine zm_aload_n (x := 0) 0 dX8_findOrder_126 rfl rfl ?_
  refine zm_getf (v := .int (w.1 0 21)) (j := 21) dX8_findOrder_127 clX8 flX8_207 (Nat.le_of_ble_eq_true rfl) zd_H0 rfl rfl ?_
  refine zm_icmp_ne 137 dX8_findOrder_130 (by decide) (fun h => ?_) (fun h => ?_)
  · refine zm_sub [0, 1] rfl ?_
    exact kt h
  · refine zm_sub [0, 1] rfl ?_
    exact kf h
theorem gX8_findOrder_133 {d : Nat} {Q : Value → zm_S → Prop} {w : zm_S} {a3 : Int32} {s0 : Int32} (k : zm_T zd_H d mX8_findOrder Q 138 [(0, .ref 0), (3, .int a3)] [.int (1 : Int32), .int s0, .ref 0] w) : zm_T zd_H d mX8_findOrder Q 133 [(0, .ref 0), (3, .int a3)] [.int s0, .ref 0] w := by
  refine zm_iconst dX8_findOrder_133 (v := (1 : Int32)) (by decide) ?_
  refine zm_goto 138 dX8_findOrder_134 (by decide) ?_
  exact k
theorem gX8_findOrder_137 {d : Nat} {Q : Value → zm_S → Prop} {w : zm_S} {a3 : Int32} {s0 : Int32} (k : zm_T zd_H d mX8_findOrder Q 138 [(0, .ref 0), (3, .int a3)] [.int (0 : Int32), .int s0, .ref 0] w) : zm_T zd_H d mX8_findOrder Q 137 [(0, .ref 0), (3, .int a3)] [.int s0, .ref 0] w := by
  refine zm_iconst dX8_findOrder_137 (v := (0 : Int32)) (by decide) ?_
  exact k
theorem gX8_findOrder_138 {d : Nat} {Q : Value → zm_S → Prop} {w : zm_S} {a3 : Int32} {s0 : Int32} {s1 : Int32} {Q' : Value → zm_S → Prop} (hC : zm_C zd_H d mX8_goesOn [.ref 0, .int a3] (zm_pi w 0 22 (s1 + s0)) Q') (k : ∀ (r : Int32) (u : zm_S), Q' (.int r) u → zm_T zd_H (d + 1) mX8_findOrder Q 147 [(0, .ref 0), (3, .int a3)] [.int r] u) : zm_T zd_H (d + 1) mX8_findOrder Q 138 [(0, .ref 0), (3, .int a3)] [.int s0, .int s1, .ref 0] w := by
  refine zm_iadd dX8_findOrder_138 ?_
  refine zm_putf (j := 22) (ty := .int) dX8_findOrder_139 clX8 flX8_210 (Nat.le_of_ble_eq_true rfl) zd_H0 rfl rfl (by decide +kernel) rfl rfl ?_
  refine zm_aload_n (x := 0) 0 dX8_findOrder_142 rfl rfl ?_
  refine zm_iload_n (x := a3) 1 dX8_findOrder_143 rfl rfl ?_
  refine zm_callVz (as := [.int a3]) (rest := []) dX8_findOrder_144 rfl mtX8_goesOn lkX8_216 zd_H0 (C := RX8) rfl rfl rfl (Nat.le_of_ble_eq_true rfl) hC rfl (fun r u hq => ?_)
  exact k r u hq
theorem gX8_findOrder_147 {d : Nat} {Q : Value → zm_S → Prop} {w : zm_S} {a3 : Int32} {s0 : Int32} (k : zm_T zd_H d mX8_findOrder Q 58 [(0, .ref 0), (3, .int a3), (4, .int s0)] [] w) : zm_T zd_H d mX8_findOrder Q 147 [(0, .ref 0), (3, .int a3)] [.int s0] w := by
  refine zm_istore dX8_findOrder_147 (Nat.le_of_ble_eq_true rfl) (ls' := [(4, .int s0), (0, .ref 0), (3, .int a3)]) rfl ?_
  refine zm_goto 58 dX8_findOrder_149 (by decide) ?_
  refine zm_sub [1, 2, 0] rfl ?_
  exact k
theorem gX8_findOrder_152 {d : Nat} {Q : Value → zm_S → Prop} {w : zm_S} (k : Q .null w) : zm_T zd_H d mX8_findOrder Q 152 [] [] w := by
  exact zm_return dX8_findOrder_152 rfl k
theorem gX8_findBest_0 {d : Nat} {Q : Value → zm_S → Prop} {w : zm_S} {Q' : Value → zm_S → Prop} (hC : zm_C zd_H d mX8_findSays [.ref 0] w Q') (k : ∀ (u : zm_S), Q' .null u → zm_T zd_H (d + 1) mX8_findBest Q 4 [(0, .ref 0)] [] u) : zm_T zd_H (d + 1) mX8_findBest Q 0 [(0, .ref 0)] [] w := by
  refine zm_aload_n (x := 0) 0 dX8_findBest_0 rfl rfl ?_
  refine zm_callVv (as := []) (rest := []) dX8_findBest_1 rfl mtX8_findSays lkX8_136 zd_H0 (C := RX8) rfl rfl rfl (Nat.le_of_ble_eq_true rfl) hC rfl (fun u hq => ?_)
  exact k u hq
theorem gX8_findBest_4 {d : Nat} {Q : Value → zm_S → Prop} {w : zm_S} {Q' : Value → zm_S → Prop} (hC : zm_C zd_H d mX8_findOrder [.ref 0, .int (-1 : Int32), .int (-1 : Int32)] w Q') (k : ∀ (u : zm_S), Q' .null u → zm_T zd_H (d + 1) mX8_findBest Q 10 [] [] u) : zm_T zd_H (d + 1) mX8_findBest Q 4 [(0, .ref 0)] [] w := by
  refine zm_aload_n (x := 0) 0 dX8_findBest_4 rfl rfl ?_
  refine zm_iconst dX8_findBest_5 (v := (-1 : Int32)) (by decide) ?_
  refine zm_iconst dX8_findBest_6 (v := (-1 : Int32)) (by decide) ?_
  refine zm_callVv (as := [.int (-1 : Int32), .int (-1 : Int32)]) (rest := []) dX8_findBest_7 rfl mtX8_findOrder lkX8_219 zd_H0 (C := RX8) rfl rfl rfl (Nat.le_of_ble_eq_true rfl) hC rfl (fun u hq => ?_)
  refine zm_sub [] rfl ?_
  exact k u hq
theorem gX8_findBest_10 {d : Nat} {Q : Value → zm_S → Prop} {w : zm_S} (k : Q .null w) : zm_T zd_H d mX8_findBest Q 10 [] [] w := by
  exact zm_return dX8_findBest_10 rfl k
theorem gX8_off_0 {d : Nat} {Q : Value → zm_S → Prop} {w : zm_S} {a1 : Int32} {Q' : Value → zm_S → Prop} (hC : zm_C zd_H d mX8_isTwo [.int a1] w Q') (k : ∀ (r : Int32) (u : zm_S), Q' (.int r) u → zm_T zd_H (d + 1) mX8_off Q 4 [(0, .ref 0), (1, .int a1)] [.int r] u) : zm_T zd_H (d + 1) mX8_off Q 0 [(0, .ref 0), (1, .int a1)] [] w := by
  refine zm_iload_n (x := a1) 1 dX8_off_0 rfl rfl ?_
  refine zm_callSz (as := [.int a1]) (rest := []) dX8_off_1 rfl mtX8_isTwo lkX8_179 rfl (Nat.le_of_ble_eq_true rfl) hC rfl (fun r u hq => ?_)
  exact k r u hq
theorem gX8_off_4 {d : Nat} {Q : Value → zm_S → Prop} {w : zm_S} {a1 : Int32} {s0 : Int32} (kt : ¬ s0 = 0 → zm_T zd_H d mX8_off Q 10 [(0, .ref 0), (1, .int a1)] [] w) (kf : s0 = 0 → zm_T zd_H d mX8_off Q 7 [] [] w) : zm_T zd_H d mX8_off Q 4 [(0, .ref 0), (1, .int a1)] [.int s0] w := by
  refine zm_if_ne 10 dX8_off_4 (by decide) (fun h => ?_) (fun h => ?_)
  · exact kt h
  · refine zm_sub [] rfl ?_
    exact kf h
theorem gX8_off_7 {d : Nat} {Q : Value → zm_S → Prop} {w : zm_S} (k : Q (.int (-2 : Int32)) w) : zm_T zd_H d mX8_off Q 7 [] [] w := by
  refine zm_bipush dX8_off_7 (v := (-2 : Int32)) (by decide) ?_
  exact zm_ireturn dX8_off_9 rfl k
theorem gX8_off_10 {d : Nat} {Q : Value → zm_S → Prop} {w : zm_S} {a1 : Int32} {Q' : Value → zm_S → Prop} (hC : zm_C zd_H d mX8_findBest [.ref 0] w Q') (k : ∀ (u : zm_S), Q' .null u → zm_T zd_H (d + 1) mX8_off Q 14 [(0, .ref 0), (1, .int a1)] [] u) : zm_T zd_H (d + 1) mX8_off Q 10 [(0, .ref 0), (1, .int a1)] [] w := by
  refine zm_aload_n (x := 0) 0 dX8_off_10 rfl rfl ?_
  refine zm_callVv (as := []) (rest := []) dX8_off_11 rfl mtX8_findBest lkX8_222 zd_H0 (C := RX8) rfl rfl rfl (Nat.le_of_ble_eq_true rfl) hC rfl (fun u hq => ?_)
  exact k u hq
theorem gX8_off_14 {d : Nat} {Q : Value → zm_S → Prop} {w : zm_S} {a1 : Int32} (kt : ¬ a1 = 0 → zm_T zd_H d mX8_off Q 25 [(0, .ref 0)] [] w) (kf : a1 = 0 → zm_T zd_H d mX8_off Q 18 [(0, .ref 0)] [] w) : zm_T zd_H d mX8_off Q 14 [(0, .ref 0), (1, .int a1)] [] w := by
  refine zm_iload_n (x := a1) 1 dX8_off_14 rfl rfl ?_
  refine zm_if_ne 25 dX8_off_15 (by decide) (fun h => ?_) (fun h => ?_)
  · refine zm_sub [0] rfl ?_
    exact kt h
  · refine zm_sub [0] rfl ?_
    exact kf h
theorem gX8_off_18 {d : Nat} {Q : Value → zm_S → Prop} {w : zm_S} (k : Q (.int (w.1 0 21)) w) : zm_T zd_H d mX8_off Q 18 [(0, .ref 0)] [] w := by
  refine zm_aload_n (x := 0) 0 dX8_off_18 rfl rfl ?_
  refine zm_getf (v := .int (w.1 0 21)) (j := 21) dX8_off_19 clX8 flX8_207 (Nat.le_of_ble_eq_true rfl) zd_H0 rfl rfl ?_
  refine zm_goto 29 dX8_off_22 (by decide) ?_
  exact zm_ireturn dX8_off_29 rfl k
theorem gX8_off_25 {d : Nat} {Q : Value → zm_S → Prop} {w : zm_S} (k : Q (.int (w.1 0 22)) w) : zm_T zd_H d mX8_off Q 25 [(0, .ref 0)] [] w := by
  refine zm_aload_n (x := 0) 0 dX8_off_25 rfl rfl ?_
  refine zm_getf (v := .int (w.1 0 22)) (j := 22) dX8_off_26 clX8 flX8_210 (Nat.le_of_ble_eq_true rfl) zd_H0 rfl rfl ?_
  exact zm_ireturn dX8_off_29 rfl k
theorem gX8_row_0 {d : Nat} {Q : Value → zm_S → Prop} {w : zm_S} {a1 : Int32} {Q' : Value → zm_S → Prop} (hC : zm_C zd_H d mX8_isQuestion [.ref 0, .int a1] w Q') (k : ∀ (r : Int32) (u : zm_S), Q' (.int r) u → zm_T zd_H (d + 1) mX8_row Q 5 [(0, .ref 0), (1, .int a1)] [.int r] u) : zm_T zd_H (d + 1) mX8_row Q 0 [(0, .ref 0), (1, .int a1)] [] w := by
  refine zm_aload_n (x := 0) 0 dX8_row_0 rfl rfl ?_
  refine zm_iload_n (x := a1) 1 dX8_row_1 rfl rfl ?_
  refine zm_callVz (as := [.int a1]) (rest := []) dX8_row_2 rfl mtX8_isQuestion lkX8_176 zd_H0 (C := RX8) rfl rfl rfl (Nat.le_of_ble_eq_true rfl) hC rfl (fun r u hq => ?_)
  exact k r u hq
theorem gX8_row_5 {d : Nat} {Q : Value → zm_S → Prop} {w : zm_S} {a1 : Int32} {s0 : Int32} (kt : ¬ s0 = 0 → zm_T zd_H d mX8_row Q 11 [(0, .ref 0), (1, .int a1)] [] w) (kf : s0 = 0 → zm_T zd_H d mX8_row Q 8 [] [] w) : zm_T zd_H d mX8_row Q 5 [(0, .ref 0), (1, .int a1)] [.int s0] w := by
  refine zm_if_ne 11 dX8_row_5 (by decide) (fun h => ?_) (fun h => ?_)
  · exact kt h
  · refine zm_sub [] rfl ?_
    exact kf h
theorem gX8_row_8 {d : Nat} {Q : Value → zm_S → Prop} {w : zm_S} (k : Q (.int (-2 : Int32)) w) : zm_T zd_H d mX8_row Q 8 [] [] w := by
  refine zm_bipush dX8_row_8 (v := (-2 : Int32)) (by decide) ?_
  exact zm_ireturn dX8_row_10 rfl k
theorem gX8_row_11 {d : Nat} {Q : Value → zm_S → Prop} {w : zm_S} {a1 : Int32} {Q' : Value → zm_S → Prop} (hC : zm_C zd_H d mX8_findBest [.ref 0] w Q') (k : ∀ (u : zm_S), Q' .null u → zm_T zd_H (d + 1) mX8_row Q 15 [(0, .ref 0), (1, .int a1)] [] u) : zm_T zd_H (d + 1) mX8_row Q 11 [(0, .ref 0), (1, .int a1)] [] w := by
  refine zm_aload_n (x := 0) 0 dX8_row_11 rfl rfl ?_
  refine zm_callVv (as := []) (rest := []) dX8_row_12 rfl mtX8_findBest lkX8_222 zd_H0 (C := RX8) rfl rfl rfl (Nat.le_of_ble_eq_true rfl) hC rfl (fun u hq => ?_)
  exact k u hq
theorem gX8_row_15 {d : Nat} {Q : Value → zm_S → Prop} {w : zm_S} {a1 : Int32} (hi20 : vp_in a1 7) (k : Q (.int (w.1 16 (a1).toNatClampNeg)) w) : zm_T zd_H d mX8_row Q 15 [(0, .ref 0), (1, .int a1)] [] w := by
  refine zm_aload_n (x := 0) 0 dX8_row_15 rfl rfl ?_
  refine zm_getf (v := .ref 16) (j := 20) dX8_row_16 clX8 flX8_55 (Nat.le_of_ble_eq_true rfl) zd_H0 rfl rfl ?_
  refine zm_iload_n (x := a1) 1 dX8_row_19 rfl rfl ?_
  refine zm_iald dX8_row_20 zd_H16 hi20 ?_
  exact zm_ireturn dX8_row_21 rfl k
theorem gX8_stepOf_0 {d : Nat} {Q : Value → zm_S → Prop} {w : zm_S} {a1 : Int32} {a2 : Int32} {Q' : Value → zm_S → Prop} (hC : zm_C zd_H d mX8_errorsOf [.ref 0, .int a1, .int (0 : Int32)] w Q') (k : ∀ (r : Int32) (u : zm_S), Q' (.int r) u → zm_T zd_H (d + 1) mX8_stepOf Q 11 [(0, .ref 0), (1, .int a1), (2, .int a2), (3, .int (0 : Int32)), (4, .int (0 : Int32))] [.int r] u) : zm_T zd_H (d + 1) mX8_stepOf Q 0 [(0, .ref 0), (1, .int a1), (2, .int a2)] [] w := by
  refine zm_iconst dX8_stepOf_0 (v := (0 : Int32)) (by decide) ?_
  refine zm_istore_n dX8_stepOf_1 rfl (Nat.le_of_ble_eq_true rfl) (ls' := [(3, .int (0 : Int32)), (0, .ref 0), (1, .int a1), (2, .int a2)]) rfl ?_
  refine zm_iconst dX8_stepOf_2 (v := (0 : Int32)) (by decide) ?_
  refine zm_istore dX8_stepOf_3 (Nat.le_of_ble_eq_true rfl) (ls' := [(4, .int (0 : Int32)), (3, .int (0 : Int32)), (0, .ref 0), (1, .int a1), (2, .int a2)]) rfl ?_
  refine zm_aload_n (x := 0) 2 dX8_stepOf_5 rfl rfl ?_
  refine zm_iload_n (x := a1) 3 dX8_stepOf_6 rfl rfl ?_
  refine zm_iconst dX8_stepOf_7 (v := (0 : Int32)) (by decide) ?_
  refine zm_callVi (as := [.int a1, .int (0 : Int32)]) (rest := []) dX8_stepOf_8 rfl mtX8_errorsOf lkX8_197 zd_H0 (C := RX8) rfl rfl rfl (Nat.le_of_ble_eq_true rfl) hC rfl (fun r u hq => ?_)
  refine zm_sub [2, 3, 4, 1, 0] rfl ?_
  exact k r u hq
theorem gX8_stepOf_11 {d : Nat} {Q : Value → zm_S → Prop} {w : zm_S} {a1 : Int32} {a2 : Int32} {a3 : Int32} {a4 : Int32} {s0 : Int32} (k : zm_T zd_H d mX8_stepOf Q 16 [(0, .ref 0), (1, .int a1), (2, .int a2), (3, .int a3), (4, .int a4), (5, .int s0), (6, .int (0 : Int32))] [] w) : zm_T zd_H d mX8_stepOf Q 11 [(0, .ref 0), (1, .int a1), (2, .int a2), (3, .int a3), (4, .int a4)] [.int s0] w := by
  refine zm_istore dX8_stepOf_11 (Nat.le_of_ble_eq_true rfl) (ls' := [(5, .int s0), (0, .ref 0), (1, .int a1), (2, .int a2), (3, .int a3), (4, .int a4)]) rfl ?_
  refine zm_iconst dX8_stepOf_13 (v := (0 : Int32)) (by decide) ?_
  refine zm_istore dX8_stepOf_14 (Nat.le_of_ble_eq_true rfl) (ls' := [(6, .int (0 : Int32)), (5, .int s0), (0, .ref 0), (1, .int a1), (2, .int a2), (3, .int a3), (4, .int a4)]) rfl ?_
  refine zm_sub [2, 3, 4, 5, 6, 1, 0] rfl ?_
  exact k
theorem gX8_stepOf_16 {d : Nat} {Q : Value → zm_S → Prop} {w : zm_S} {a1 : Int32} {a2 : Int32} {a3 : Int32} {a4 : Int32} {a5 : Int32} {a6 : Int32} {Q' : Value → zm_S → Prop} (hC : zm_C zd_H d mX8_n [.ref 0] w Q') (k : ∀ (r : Int32) (u : zm_S), Q' (.int r) u → zm_T zd_H (d + 1) mX8_stepOf Q 22 [(0, .ref 0), (1, .int a1), (2, .int a2), (3, .int a3), (4, .int a4), (5, .int a5), (6, .int a6)] [.int r, .int a6] u) : zm_T zd_H (d + 1) mX8_stepOf Q 16 [(0, .ref 0), (1, .int a1), (2, .int a2), (3, .int a3), (4, .int a4), (5, .int a5), (6, .int a6)] [] w := by
  refine zm_iload (x := a6) 6 dX8_stepOf_16 rfl ?_
  refine zm_aload_n (x := 0) 0 dX8_stepOf_18 rfl rfl ?_
  refine zm_callVi (as := []) (rest := [.int a6]) dX8_stepOf_19 rfl mtX8_n lkX8_111 zd_H0 (C := RX8) rfl rfl rfl (Nat.le_of_ble_eq_true rfl) hC rfl (fun r u hq => ?_)
  exact k r u hq
theorem gX8_stepOf_22 {d : Nat} {Q : Value → zm_S → Prop} {w : zm_S} {a1 : Int32} {a2 : Int32} {a3 : Int32} {a4 : Int32} {a5 : Int32} {a6 : Int32} {s0 : Int32} {s1 : Int32} (kt : s0 ≤ s1 → zm_T zd_H d mX8_stepOf Q 85 [(2, .int a2), (4, .int a4), (5, .int a5)] [] w) (kf : ¬ s0 ≤ s1 → zm_T zd_H d mX8_stepOf Q 25 [(0, .ref 0), (1, .int a1), (2, .int a2), (3, .int a3), (4, .int a4), (5, .int a5), (6, .int a6)] [] w) : zm_T zd_H d mX8_stepOf Q 22 [(0, .ref 0), (1, .int a1), (2, .int a2), (3, .int a3), (4, .int a4), (5, .int a5), (6, .int a6)] [.int s0, .int s1] w := by
  refine zm_icmp_ge 85 dX8_stepOf_22 (by decide) (fun h => ?_) (fun h => ?_)
  · refine zm_sub [2, 4, 5] rfl ?_
    exact kt h
  · exact kf h
theorem gX8_stepOf_25 {d : Nat} {Q : Value → zm_S → Prop} {w : zm_S} {a1 : Int32} {a2 : Int32} {a3 : Int32} {a4 : Int32} {a5 : Int32} {a6 : Int32} {Q' : Value → zm_S → Prop} (hi33 : vp_in a6 7) (hC : zm_C zd_H d mX8_errorsOf [.ref 0, .int a1, .int (a3 ||| ((1 : Int32) <<< ((w.1 16 (a6).toNatClampNeg) &&& 31)))] w Q') (k : ∀ (r : Int32) (u : zm_S), Q' (.int r) u → zm_T zd_H (d + 1) mX8_stepOf Q 43 [(0, .ref 0), (1, .int a1), (2, .int a2), (3, .int (a3 ||| ((1 : Int32) <<< ((w.1 16 (a6).toNatClampNeg) &&& 31)))), (4, .int a4), (5, .int a5), (6, .int a6)] [.int r] u) : zm_T zd_H (d + 1) mX8_stepOf Q 25 [(0, .ref 0), (1, .int a1), (2, .int a2), (3, .int a3), (4, .int a4), (5, .int a5), (6, .int a6)] [] w := by
  refine zm_iload_n (x := a3) 3 dX8_stepOf_25 rfl rfl ?_
  refine zm_iconst dX8_stepOf_26 (v := (1 : Int32)) (by decide) ?_
  refine zm_aload_n (x := 0) 0 dX8_stepOf_27 rfl rfl ?_
  refine zm_getf (v := .ref 16) (j := 20) dX8_stepOf_28 clX8 flX8_55 (Nat.le_of_ble_eq_true rfl) zd_H0 rfl rfl ?_
  refine zm_iload (x := a6) 6 dX8_stepOf_31 rfl ?_
  refine zm_iald dX8_stepOf_33 zd_H16 hi33 ?_
  refine zm_ishl dX8_stepOf_34 ?_
  refine zm_ior dX8_stepOf_35 ?_
  refine zm_istore_n dX8_stepOf_36 rfl (Nat.le_of_ble_eq_true rfl) (ls' := [(3, .int (a3 ||| ((1 : Int32) <<< ((w.1 16 (a6).toNatClampNeg) &&& 31)))), (0, .ref 0), (1, .int a1), (2, .int a2), (4, .int a4), (5, .int a5), (6, .int a6)]) rfl ?_
  refine zm_aload_n (x := 0) 1 dX8_stepOf_37 rfl rfl ?_
  refine zm_iload_n (x := a1) 2 dX8_stepOf_38 rfl rfl ?_
  refine zm_iload_n (x := (a3 ||| ((1 : Int32) <<< ((w.1 16 (a6).toNatClampNeg) &&& 31)))) 0 dX8_stepOf_39 rfl rfl ?_
  refine zm_callVi (as := [.int a1, .int (a3 ||| ((1 : Int32) <<< ((w.1 16 (a6).toNatClampNeg) &&& 31)))]) (rest := []) dX8_stepOf_40 rfl mtX8_errorsOf lkX8_197 zd_H0 (C := RX8) rfl rfl rfl (Nat.le_of_ble_eq_true rfl) hC rfl (fun r u hq => ?_)
  refine zm_sub [1, 2, 3, 0, 4, 5, 6] rfl ?_
  exact k r u hq
theorem gX8_stepOf_43 {d : Nat} {Q : Value → zm_S → Prop} {w : zm_S} {a1 : Int32} {a2 : Int32} {a3 : Int32} {a4 : Int32} {a5 : Int32} {a6 : Int32} {s0 : Int32} (kt : a5 ≤ s0 → zm_T zd_H d mX8_stepOf Q 59 [(0, .ref 0), (1, .int a1), (2, .int a2), (3, .int a3), (4, .int a4), (5, .int a5), (6, .int a6), (7, .int s0)] [] w) (kf : ¬ a5 ≤ s0 → zm_T zd_H d mX8_stepOf Q 52 [(0, .ref 0), (1, .int a1), (2, .int a2), (3, .int a3), (5, .int a5), (6, .int a6), (7, .int s0)] [] w) : zm_T zd_H d mX8_stepOf Q 43 [(0, .ref 0), (1, .int a1), (2, .int a2), (3, .int a3), (4, .int a4), (5, .int a5), (6, .int a6)] [.int s0] w := by
  refine zm_istore dX8_stepOf_43 (Nat.le_of_ble_eq_true rfl) (ls' := [(7, .int s0), (0, .ref 0), (1, .int a1), (2, .int a2), (3, .int a3), (4, .int a4), (5, .int a5), (6, .int a6)]) rfl ?_
  refine zm_iload (x := s0) 0 dX8_stepOf_45 rfl ?_
  refine zm_iload (x := a5) 6 dX8_stepOf_47 rfl ?_
  refine zm_icmp_ge 59 dX8_stepOf_49 (by decide) (fun h => ?_) (fun h => ?_)
  · refine zm_sub [1, 2, 3, 4, 5, 6, 7, 0] rfl ?_
    exact kt h
  · refine zm_sub [1, 2, 3, 4, 6, 7, 0] rfl ?_
    exact kf h
theorem gX8_stepOf_52 {d : Nat} {Q : Value → zm_S → Prop} {w : zm_S} {a1 : Int32} {a2 : Int32} {a3 : Int32} {a5 : Int32} {a6 : Int32} {a7 : Int32} (k : zm_T zd_H d mX8_stepOf Q 61 [(0, .ref 0), (1, .int a1), (2, .int a2), (3, .int a3), (5, .int a5), (6, .int a6), (7, .int a7)] [.int (a6 + (1 : Int32))] w) : zm_T zd_H d mX8_stepOf Q 52 [(0, .ref 0), (1, .int a1), (2, .int a2), (3, .int a3), (5, .int a5), (6, .int a6), (7, .int a7)] [] w := by
  refine zm_iload (x := a6) 5 dX8_stepOf_52 rfl ?_
  refine zm_iconst dX8_stepOf_54 (v := (1 : Int32)) (by decide) ?_
  refine zm_iadd dX8_stepOf_55 ?_
  refine zm_goto 61 dX8_stepOf_56 (by decide) ?_
  exact k
theorem gX8_stepOf_59 {d : Nat} {Q : Value → zm_S → Prop} {w : zm_S} {a1 : Int32} {a2 : Int32} {a3 : Int32} {a4 : Int32} {a5 : Int32} {a6 : Int32} {a7 : Int32} (k : zm_T zd_H d mX8_stepOf Q 61 [(0, .ref 0), (1, .int a1), (2, .int a2), (3, .int a3), (5, .int a5), (6, .int a6), (7, .int a7)] [.int a4] w) : zm_T zd_H d mX8_stepOf Q 59 [(0, .ref 0), (1, .int a1), (2, .int a2), (3, .int a3), (4, .int a4), (5, .int a5), (6, .int a6), (7, .int a7)] [] w := by
  refine zm_iload (x := a4) 4 dX8_stepOf_59 rfl ?_
  refine zm_sub [0, 1, 2, 3, 5, 6, 7] rfl ?_
  exact k
theorem gX8_stepOf_61 {d : Nat} {Q : Value → zm_S → Prop} {w : zm_S} {a1 : Int32} {a2 : Int32} {a3 : Int32} {a5 : Int32} {a6 : Int32} {a7 : Int32} {s0 : Int32} (kt : a5 ≤ a7 → zm_T zd_H d mX8_stepOf Q 75 [(0, .ref 0), (1, .int a1), (2, .int a2), (3, .int a3), (4, .int s0), (5, .int a5), (6, .int a6)] [] w) (kf : ¬ a5 ≤ a7 → zm_T zd_H d mX8_stepOf Q 70 [(0, .ref 0), (1, .int a1), (2, .int a2), (3, .int a3), (4, .int s0), (6, .int a6), (7, .int a7)] [] w) : zm_T zd_H d mX8_stepOf Q 61 [(0, .ref 0), (1, .int a1), (2, .int a2), (3, .int a3), (5, .int a5), (6, .int a6), (7, .int a7)] [.int s0] w := by
  refine zm_istore dX8_stepOf_61 (Nat.le_of_ble_eq_true rfl) (ls' := [(4, .int s0), (0, .ref 0), (1, .int a1), (2, .int a2), (3, .int a3), (5, .int a5), (6, .int a6), (7, .int a7)]) rfl ?_
  refine zm_iload (x := a7) 7 dX8_stepOf_63 rfl ?_
  refine zm_iload (x := a5) 5 dX8_stepOf_65 rfl ?_
  refine zm_icmp_ge 75 dX8_stepOf_67 (by decide) (fun h => ?_) (fun h => ?_)
  · refine zm_sub [1, 2, 3, 4, 0, 5, 6] rfl ?_
    exact kt h
  · refine zm_sub [1, 2, 3, 4, 0, 6, 7] rfl ?_
    exact kf h
theorem gX8_stepOf_70 {d : Nat} {Q : Value → zm_S → Prop} {w : zm_S} {a1 : Int32} {a2 : Int32} {a3 : Int32} {a4 : Int32} {a6 : Int32} {a7 : Int32} (k : zm_T zd_H d mX8_stepOf Q 77 [(0, .ref 0), (1, .int a1), (2, .int a2), (3, .int a3), (4, .int a4), (6, .int a6)] [.int a7] w) : zm_T zd_H d mX8_stepOf Q 70 [(0, .ref 0), (1, .int a1), (2, .int a2), (3, .int a3), (4, .int a4), (6, .int a6), (7, .int a7)] [] w := by
  refine zm_iload (x := a7) 6 dX8_stepOf_70 rfl ?_
  refine zm_goto 77 dX8_stepOf_72 (by decide) ?_
  refine zm_sub [0, 1, 2, 3, 4, 5] rfl ?_
  exact k
theorem gX8_stepOf_75 {d : Nat} {Q : Value → zm_S → Prop} {w : zm_S} {a1 : Int32} {a2 : Int32} {a3 : Int32} {a4 : Int32} {a5 : Int32} {a6 : Int32} (k : zm_T zd_H d mX8_stepOf Q 77 [(0, .ref 0), (1, .int a1), (2, .int a2), (3, .int a3), (4, .int a4), (6, .int a6)] [.int a5] w) : zm_T zd_H d mX8_stepOf Q 75 [(0, .ref 0), (1, .int a1), (2, .int a2), (3, .int a3), (4, .int a4), (5, .int a5), (6, .int a6)] [] w := by
  refine zm_iload (x := a5) 5 dX8_stepOf_75 rfl ?_
  refine zm_sub [0, 1, 2, 3, 4, 6] rfl ?_
  exact k
theorem gX8_stepOf_77 {d : Nat} {Q : Value → zm_S → Prop} {w : zm_S} {a1 : Int32} {a2 : Int32} {a3 : Int32} {a4 : Int32} {a6 : Int32} {s0 : Int32} (k : zm_T zd_H d mX8_stepOf Q 16 [(0, .ref 0), (1, .int a1), (2, .int a2), (3, .int a3), (4, .int a4), (5, .int s0), (6, .int (a6 + (1 : Int32)))] [] w) : zm_T zd_H d mX8_stepOf Q 77 [(0, .ref 0), (1, .int a1), (2, .int a2), (3, .int a3), (4, .int a4), (6, .int a6)] [.int s0] w := by
  refine zm_istore dX8_stepOf_77 (Nat.le_of_ble_eq_true rfl) (ls' := [(5, .int s0), (0, .ref 0), (1, .int a1), (2, .int a2), (3, .int a3), (4, .int a4), (6, .int a6)]) rfl ?_
  refine zm_iinc 6 dX8_stepOf_79 (x := a6) (v := (a6 + (1 : Int32))) rfl rfl (Nat.le_of_ble_eq_true rfl) (ls' := [(6, .int (a6 + (1 : Int32))), (5, .int s0), (0, .ref 0), (1, .int a1), (2, .int a2), (3, .int a3), (4, .int a4)]) rfl ?_
  refine zm_goto 16 dX8_stepOf_82 (by decide) ?_
  refine zm_sub [2, 3, 4, 5, 6, 1, 0] rfl ?_
  exact k
theorem gX8_stepOf_85 {d : Nat} {Q : Value → zm_S → Prop} {w : zm_S} {a2 : Int32} {a4 : Int32} {a5 : Int32} (kt : ¬ a2 = 0 → zm_T zd_H d mX8_stepOf Q 94 [(5, .int a5)] [] w) (kf : a2 = 0 → zm_T zd_H d mX8_stepOf Q 89 [(4, .int a4)] [] w) : zm_T zd_H d mX8_stepOf Q 85 [(2, .int a2), (4, .int a4), (5, .int a5)] [] w := by
  refine zm_iload_n (x := a2) 0 dX8_stepOf_85 rfl rfl ?_
  refine zm_if_ne 94 dX8_stepOf_86 (by decide) (fun h => ?_) (fun h => ?_)
  · refine zm_sub [2] rfl ?_
    exact kt h
  · refine zm_sub [1] rfl ?_
    exact kf h
theorem gX8_stepOf_89 {d : Nat} {Q : Value → zm_S → Prop} {w : zm_S} {a4 : Int32} (k : Q (.int a4) w) : zm_T zd_H d mX8_stepOf Q 89 [(4, .int a4)] [] w := by
  refine zm_iload (x := a4) 0 dX8_stepOf_89 rfl ?_
  refine zm_goto 96 dX8_stepOf_91 (by decide) ?_
  exact zm_ireturn dX8_stepOf_96 rfl k
theorem gX8_stepOf_94 {d : Nat} {Q : Value → zm_S → Prop} {w : zm_S} {a5 : Int32} (k : Q (.int a5) w) : zm_T zd_H d mX8_stepOf Q 94 [(5, .int a5)] [] w := by
  refine zm_iload (x := a5) 0 dX8_stepOf_94 rfl ?_
  exact zm_ireturn dX8_stepOf_96 rfl k
theorem gX8_step_0 {d : Nat} {Q : Value → zm_S → Prop} {w : zm_S} {a1 : Int32} {a2 : Int32} {Q' : Value → zm_S → Prop} (hC : zm_C zd_H d mX8_isPupil [.int a1] w Q') (k : ∀ (r : Int32) (u : zm_S), Q' (.int r) u → zm_T zd_H (d + 1) mX8_step Q 4 [(0, .ref 0), (1, .int a1), (2, .int a2)] [.int r] u) : zm_T zd_H (d + 1) mX8_step Q 0 [(0, .ref 0), (1, .int a1), (2, .int a2)] [] w := by
  refine zm_iload_n (x := a1) 1 dX8_step_0 rfl rfl ?_
  refine zm_callSz (as := [.int a1]) (rest := []) dX8_step_1 rfl mtX8_isPupil lkX8_123 rfl (Nat.le_of_ble_eq_true rfl) hC rfl (fun r u hq => ?_)
  exact k r u hq
theorem gX8_step_4 {d : Nat} {Q : Value → zm_S → Prop} {w : zm_S} {a1 : Int32} {a2 : Int32} {s0 : Int32} (kt : s0 = 0 → zm_T zd_H d mX8_step Q 14 [] [] w) (kf : ¬ s0 = 0 → zm_T zd_H d mX8_step Q 7 [(0, .ref 0), (1, .int a1), (2, .int a2)] [] w) : zm_T zd_H d mX8_step Q 4 [(0, .ref 0), (1, .int a1), (2, .int a2)] [.int s0] w := by
  refine zm_if_eq 14 dX8_step_4 (by decide) (fun h => ?_) (fun h => ?_)
  · refine zm_sub [] rfl ?_
    exact kt h
  · exact kf h
theorem gX8_step_7 {d : Nat} {Q : Value → zm_S → Prop} {w : zm_S} {a1 : Int32} {a2 : Int32} {Q' : Value → zm_S → Prop} (hC : zm_C zd_H d mX8_isTwo [.int a2] w Q') (k : ∀ (r : Int32) (u : zm_S), Q' (.int r) u → zm_T zd_H (d + 1) mX8_step Q 11 [(0, .ref 0), (1, .int a1), (2, .int a2)] [.int r] u) : zm_T zd_H (d + 1) mX8_step Q 7 [(0, .ref 0), (1, .int a1), (2, .int a2)] [] w := by
  refine zm_iload_n (x := a2) 2 dX8_step_7 rfl rfl ?_
  refine zm_callSz (as := [.int a2]) (rest := []) dX8_step_8 rfl mtX8_isTwo lkX8_179 rfl (Nat.le_of_ble_eq_true rfl) hC rfl (fun r u hq => ?_)
  exact k r u hq
theorem gX8_step_11 {d : Nat} {Q : Value → zm_S → Prop} {w : zm_S} {a1 : Int32} {a2 : Int32} {s0 : Int32} (kt : ¬ s0 = 0 → zm_T zd_H d mX8_step Q 17 [(0, .ref 0), (1, .int a1), (2, .int a2)] [] w) (kf : s0 = 0 → zm_T zd_H d mX8_step Q 14 [] [] w) : zm_T zd_H d mX8_step Q 11 [(0, .ref 0), (1, .int a1), (2, .int a2)] [.int s0] w := by
  refine zm_if_ne 17 dX8_step_11 (by decide) (fun h => ?_) (fun h => ?_)
  · exact kt h
  · refine zm_sub [] rfl ?_
    exact kf h
theorem gX8_step_14 {d : Nat} {Q : Value → zm_S → Prop} {w : zm_S} (k : Q (.int (-2 : Int32)) w) : zm_T zd_H d mX8_step Q 14 [] [] w := by
  refine zm_bipush dX8_step_14 (v := (-2 : Int32)) (by decide) ?_
  exact zm_ireturn dX8_step_16 rfl k
theorem gX8_step_17 {d : Nat} {Q : Value → zm_S → Prop} {w : zm_S} {a1 : Int32} {a2 : Int32} {Q' : Value → zm_S → Prop} (hC : zm_C zd_H d mX8_findBest [.ref 0] w Q') (k : ∀ (u : zm_S), Q' .null u → zm_T zd_H (d + 1) mX8_step Q 21 [(0, .ref 0), (1, .int a1), (2, .int a2)] [] u) : zm_T zd_H (d + 1) mX8_step Q 17 [(0, .ref 0), (1, .int a1), (2, .int a2)] [] w := by
  refine zm_aload_n (x := 0) 0 dX8_step_17 rfl rfl ?_
  refine zm_callVv (as := []) (rest := []) dX8_step_18 rfl mtX8_findBest lkX8_222 zd_H0 (C := RX8) rfl rfl rfl (Nat.le_of_ble_eq_true rfl) hC rfl (fun u hq => ?_)
  exact k u hq
theorem gX8_step_21 {d : Nat} {Q : Value → zm_S → Prop} {w : zm_S} {a1 : Int32} {a2 : Int32} {Q' : Value → zm_S → Prop} (hC : zm_C zd_H d mX8_stepOf [.ref 0, .int a1, .int a2] w Q') (k : ∀ (r : Int32) (u : zm_S), Q' (.int r) u → zm_T zd_H (d + 1) mX8_step Q 27 [] [.int r] u) : zm_T zd_H (d + 1) mX8_step Q 21 [(0, .ref 0), (1, .int a1), (2, .int a2)] [] w := by
  refine zm_aload_n (x := 0) 0 dX8_step_21 rfl rfl ?_
  refine zm_iload_n (x := a1) 1 dX8_step_22 rfl rfl ?_
  refine zm_iload_n (x := a2) 2 dX8_step_23 rfl rfl ?_
  refine zm_callVi (as := [.int a1, .int a2]) (rest := []) dX8_step_24 rfl mtX8_stepOf lkX8_225 zd_H0 (C := RX8) rfl rfl rfl (Nat.le_of_ble_eq_true rfl) hC rfl (fun r u hq => ?_)
  refine zm_sub [] rfl ?_
  exact k r u hq
theorem gX8_step_27 {d : Nat} {Q : Value → zm_S → Prop} {w : zm_S} {s0 : Int32} (k : Q (.int s0) w) : zm_T zd_H d mX8_step Q 27 [] [.int s0] w := by
  exact zm_ireturn dX8_step_27 rfl k
theorem gX8_offBy_0 {d : Nat} {Q : Value → zm_S → Prop} {w : zm_S} {a1 : Int32} {Q' : Value → zm_S → Prop} (hC : zm_C zd_H d mX8_isSheet [.int a1] w Q') (k : ∀ (r : Int32) (u : zm_S), Q' (.int r) u → zm_T zd_H (d + 1) mX8_offBy Q 4 [(0, .ref 0), (1, .int a1)] [.int r] u) : zm_T zd_H (d + 1) mX8_offBy Q 0 [(0, .ref 0), (1, .int a1)] [] w := by
  refine zm_iload_n (x := a1) 1 dX8_offBy_0 rfl rfl ?_
  refine zm_callSz (as := [.int a1]) (rest := []) dX8_offBy_1 rfl mtX8_isSheet lkX8_88 rfl (Nat.le_of_ble_eq_true rfl) hC rfl (fun r u hq => ?_)
  exact k r u hq
theorem gX8_offBy_4 {d : Nat} {Q : Value → zm_S → Prop} {w : zm_S} {a1 : Int32} {s0 : Int32} (kt : ¬ s0 = 0 → zm_T zd_H d mX8_offBy Q 10 [(0, .ref 0), (1, .int a1)] [] w) (kf : s0 = 0 → zm_T zd_H d mX8_offBy Q 7 [] [] w) : zm_T zd_H d mX8_offBy Q 4 [(0, .ref 0), (1, .int a1)] [.int s0] w := by
  refine zm_if_ne 10 dX8_offBy_4 (by decide) (fun h => ?_) (fun h => ?_)
  · exact kt h
  · refine zm_sub [] rfl ?_
    exact kf h
theorem gX8_offBy_7 {d : Nat} {Q : Value → zm_S → Prop} {w : zm_S} (k : Q (.int (-2 : Int32)) w) : zm_T zd_H d mX8_offBy Q 7 [] [] w := by
  refine zm_bipush dX8_offBy_7 (v := (-2 : Int32)) (by decide) ?_
  exact zm_ireturn dX8_offBy_9 rfl k
theorem gX8_offBy_10 {d : Nat} {Q : Value → zm_S → Prop} {w : zm_S} {a1 : Int32} (hi15 : vp_in a1 4) (kt : 0 ≤ (w.1 1 (a1).toNatClampNeg) → zm_T zd_H d mX8_offBy Q 25 [(0, .ref 0), (1, .int a1)] [] w) (kf : ¬ 0 ≤ (w.1 1 (a1).toNatClampNeg) → zm_T zd_H d mX8_offBy Q 19 [(0, .ref 0)] [] w) : zm_T zd_H d mX8_offBy Q 10 [(0, .ref 0), (1, .int a1)] [] w := by
  refine zm_aload_n (x := 0) 0 dX8_offBy_10 rfl rfl ?_
  refine zm_getf (v := .ref 1) (j := 0) dX8_offBy_11 clX8 flX8_7 (Nat.le_of_ble_eq_true rfl) zd_H0 rfl rfl ?_
  refine zm_iload_n (x := a1) 1 dX8_offBy_14 rfl rfl ?_
  refine zm_iald dX8_offBy_15 zd_H1 hi15 ?_
  refine zm_if_ge 25 dX8_offBy_16 (by decide) (fun h => ?_) (fun h => ?_)
  · exact kt h
  · refine zm_sub [0] rfl ?_
    exact kf h
theorem gX8_offBy_19 {d : Nat} {Q : Value → zm_S → Prop} {w : zm_S} {Q' : Value → zm_S → Prop} (hC : zm_C zd_H d mX8_met [.ref 0, .int (1 : Int32)] w Q') (k : ∀ (r : Int32) (u : zm_S), Q' (.int r) u → zm_T zd_H (d + 1) mX8_offBy Q 24 [] [.int r] u) : zm_T zd_H (d + 1) mX8_offBy Q 19 [(0, .ref 0)] [] w := by
  refine zm_aload_n (x := 0) 0 dX8_offBy_19 rfl rfl ?_
  refine zm_iconst dX8_offBy_20 (v := (1 : Int32)) (by decide) ?_
  refine zm_callVi (as := [.int (1 : Int32)]) (rest := []) dX8_offBy_21 rfl mtX8_met lkX8_94 zd_H0 (C := RX8) rfl rfl rfl (Nat.le_of_ble_eq_true rfl) hC rfl (fun r u hq => ?_)
  refine zm_sub [] rfl ?_
  exact k r u hq
theorem gX8_offBy_24 {d : Nat} {Q : Value → zm_S → Prop} {w : zm_S} {s0 : Int32} (k : Q (.int s0) w) : zm_T zd_H d mX8_offBy Q 24 [] [.int s0] w := by
  exact zm_ireturn dX8_offBy_24 rfl k
theorem gX8_offBy_25 {d : Nat} {Q : Value → zm_S → Prop} {w : zm_S} {a1 : Int32} (k : zm_T zd_H d mX8_offBy Q 29 [(0, .ref 0), (1, .int a1), (2, .int (0 : Int32)), (3, .int (0 : Int32))] [] w) : zm_T zd_H d mX8_offBy Q 25 [(0, .ref 0), (1, .int a1)] [] w := by
  refine zm_iconst dX8_offBy_25 (v := (0 : Int32)) (by decide) ?_
  refine zm_istore_n dX8_offBy_26 rfl (Nat.le_of_ble_eq_true rfl) (ls' := [(2, .int (0 : Int32)), (0, .ref 0), (1, .int a1)]) rfl ?_
  refine zm_iconst dX8_offBy_27 (v := (0 : Int32)) (by decide) ?_
  refine zm_istore_n dX8_offBy_28 rfl (Nat.le_of_ble_eq_true rfl) (ls' := [(3, .int (0 : Int32)), (2, .int (0 : Int32)), (0, .ref 0), (1, .int a1)]) rfl ?_
  refine zm_sub [2, 3, 1, 0] rfl ?_
  exact k
theorem gX8_offBy_29 {d : Nat} {Q : Value → zm_S → Prop} {w : zm_S} {a1 : Int32} {a2 : Int32} {a3 : Int32} {Q' : Value → zm_S → Prop} (hC : zm_C zd_H d mX8_n [.ref 0] w Q') (k : ∀ (r : Int32) (u : zm_S), Q' (.int r) u → zm_T zd_H (d + 1) mX8_offBy Q 34 [(0, .ref 0), (1, .int a1), (2, .int a2), (3, .int a3)] [.int r, .int a3] u) : zm_T zd_H (d + 1) mX8_offBy Q 29 [(0, .ref 0), (1, .int a1), (2, .int a2), (3, .int a3)] [] w := by
  refine zm_iload_n (x := a3) 3 dX8_offBy_29 rfl rfl ?_
  refine zm_aload_n (x := 0) 0 dX8_offBy_30 rfl rfl ?_
  refine zm_callVi (as := []) (rest := [.int a3]) dX8_offBy_31 rfl mtX8_n lkX8_111 zd_H0 (C := RX8) rfl rfl rfl (Nat.le_of_ble_eq_true rfl) hC rfl (fun r u hq => ?_)
  exact k r u hq
theorem gX8_offBy_34 {d : Nat} {Q : Value → zm_S → Prop} {w : zm_S} {a1 : Int32} {a2 : Int32} {a3 : Int32} {s0 : Int32} {s1 : Int32} (kt : s0 ≤ s1 → zm_T zd_H d mX8_offBy Q 102 [(0, .ref 0), (2, .int a2)] [] w) (kf : ¬ s0 ≤ s1 → zm_T zd_H d mX8_offBy Q 37 [(0, .ref 0), (1, .int a1), (2, .int a2), (3, .int a3)] [] w) : zm_T zd_H d mX8_offBy Q 34 [(0, .ref 0), (1, .int a1), (2, .int a2), (3, .int a3)] [.int s0, .int s1] w := by
  refine zm_icmp_ge 102 dX8_offBy_34 (by decide) (fun h => ?_) (fun h => ?_)
  · refine zm_sub [0, 2] rfl ?_
    exact kt h
  · exact kf h
theorem gX8_offBy_37 {d : Nat} {Q : Value → zm_S → Prop} {w : zm_S} {a1 : Int32} {a2 : Int32} {a3 : Int32} (hi43 : vp_in a1 4) (kt : (w.1 2 (a1).toNatClampNeg) ≤ a3 → zm_T zd_H d mX8_offBy Q 65 [] [] w) (kf : ¬ (w.1 2 (a1).toNatClampNeg) ≤ a3 → zm_T zd_H d mX8_offBy Q 47 [(0, .ref 0), (1, .int a1), (2, .int a2), (3, .int a3)] [] w) : zm_T zd_H d mX8_offBy Q 37 [(0, .ref 0), (1, .int a1), (2, .int a2), (3, .int a3)] [] w := by
  refine zm_iload_n (x := a3) 3 dX8_offBy_37 rfl rfl ?_
  refine zm_aload_n (x := 0) 0 dX8_offBy_38 rfl rfl ?_
  refine zm_getf (v := .ref 2) (j := 1) dX8_offBy_39 clX8 flX8_13 (Nat.le_of_ble_eq_true rfl) zd_H0 rfl rfl ?_
  refine zm_iload_n (x := a1) 1 dX8_offBy_42 rfl rfl ?_
  refine zm_iald dX8_offBy_43 zd_H2 hi43 ?_
  refine zm_icmp_ge 65 dX8_offBy_44 (by decide) (fun h => ?_) (fun h => ?_)
  · refine zm_sub [] rfl ?_
    exact kt h
  · exact kf h
theorem gX8_offBy_47 {d : Nat} {Q : Value → zm_S → Prop} {w : zm_S} {a1 : Int32} {a2 : Int32} {a3 : Int32} {Q' : Value → zm_S → Prop} (hi58 : vp_in (((60 : Int32) * a1) + a3) 240) (hC : zm_C zd_H d mX8_isQuestion [.ref 0, .int (w.1 3 ((((60 : Int32) * a1) + a3)).toNatClampNeg)] w Q') (k : ∀ (r : Int32) (u : zm_S), Q' (.int r) u → zm_T zd_H (d + 1) mX8_offBy Q 62 [(0, .ref 0), (1, .int a1), (2, .int a2), (3, .int a3)] [.int r] u) : zm_T zd_H (d + 1) mX8_offBy Q 47 [(0, .ref 0), (1, .int a1), (2, .int a2), (3, .int a3)] [] w := by
  refine zm_aload_n (x := 0) 0 dX8_offBy_47 rfl rfl ?_
  refine zm_aload_n (x := 0) 0 dX8_offBy_48 rfl rfl ?_
  refine zm_getf (v := .ref 3) (j := 2) dX8_offBy_49 clX8 flX8_16 (Nat.le_of_ble_eq_true rfl) zd_H0 rfl rfl ?_
  refine zm_bipush dX8_offBy_52 (v := (60 : Int32)) (by decide) ?_
  refine zm_iload_n (x := a1) 1 dX8_offBy_54 rfl rfl ?_
  refine zm_imul dX8_offBy_55 ?_
  refine zm_iload_n (x := a3) 3 dX8_offBy_56 rfl rfl ?_
  refine zm_iadd dX8_offBy_57 ?_
  refine zm_iald dX8_offBy_58 zd_H3 hi58 ?_
  refine zm_callVz (as := [.int (w.1 3 ((((60 : Int32) * a1) + a3)).toNatClampNeg)]) (rest := []) dX8_offBy_59 rfl mtX8_isQuestion lkX8_176 zd_H0 (C := RX8) rfl rfl rfl (Nat.le_of_ble_eq_true rfl) hC rfl (fun r u hq => ?_)
  exact k r u hq
theorem gX8_offBy_62 {d : Nat} {Q : Value → zm_S → Prop} {w : zm_S} {a1 : Int32} {a2 : Int32} {a3 : Int32} {s0 : Int32} (kt : ¬ s0 = 0 → zm_T zd_H d mX8_offBy Q 68 [(0, .ref 0), (1, .int a1), (2, .int a2), (3, .int a3)] [] w) (kf : s0 = 0 → zm_T zd_H d mX8_offBy Q 65 [] [] w) : zm_T zd_H d mX8_offBy Q 62 [(0, .ref 0), (1, .int a1), (2, .int a2), (3, .int a3)] [.int s0] w := by
  refine zm_if_ne 68 dX8_offBy_62 (by decide) (fun h => ?_) (fun h => ?_)
  · exact kt h
  · refine zm_sub [] rfl ?_
    exact kf h
theorem gX8_offBy_65 {d : Nat} {Q : Value → zm_S → Prop} {w : zm_S} (k : Q (.int (-3 : Int32)) w) : zm_T zd_H d mX8_offBy Q 65 [] [] w := by
  refine zm_bipush dX8_offBy_65 (v := (-3 : Int32)) (by decide) ?_
  exact zm_ireturn dX8_offBy_67 rfl k
theorem gX8_offBy_68 {d : Nat} {Q : Value → zm_S → Prop} {w : zm_S} {a1 : Int32} {a2 : Int32} {a3 : Int32} (hi83 : vp_in (((60 : Int32) * a1) + a3) 240) (hi84 : vp_in a3 7) (hi92 : vp_in a3 7) (k : zm_T zd_H d mX8_offBy Q 29 [(0, .ref 0), (1, .int a1), (2, .int (a2 ||| ((1 : Int32) <<< (((zm_pi w 15 (a3).toNatClampNeg (w.1 3 ((((60 : Int32) * a1) + a3)).toNatClampNeg)).1 15 (a3).toNatClampNeg) &&& 31)))), (3, .int (a3 + (1 : Int32)))] [] (zm_pi w 15 (a3).toNatClampNeg (w.1 3 ((((60 : Int32) * a1) + a3)).toNatClampNeg))) : zm_T zd_H d mX8_offBy Q 68 [(0, .ref 0), (1, .int a1), (2, .int a2), (3, .int a3)] [] w := by
  refine zm_aload_n (x := 0) 0 dX8_offBy_68 rfl rfl ?_
  refine zm_getf (v := .ref 15) (j := 19) dX8_offBy_69 clX8 flX8_52 (Nat.le_of_ble_eq_true rfl) zd_H0 rfl rfl ?_
  refine zm_iload_n (x := a3) 3 dX8_offBy_72 rfl rfl ?_
  refine zm_aload_n (x := 0) 0 dX8_offBy_73 rfl rfl ?_
  refine zm_getf (v := .ref 3) (j := 2) dX8_offBy_74 clX8 flX8_16 (Nat.le_of_ble_eq_true rfl) zd_H0 rfl rfl ?_
  refine zm_bipush dX8_offBy_77 (v := (60 : Int32)) (by decide) ?_
  refine zm_iload_n (x := a1) 1 dX8_offBy_79 rfl rfl ?_
  refine zm_imul dX8_offBy_80 ?_
  refine zm_iload_n (x := a3) 3 dX8_offBy_81 rfl rfl ?_
  refine zm_iadd dX8_offBy_82 ?_
  refine zm_iald dX8_offBy_83 zd_H3 hi83 ?_
  refine zm_iast dX8_offBy_84 zd_H15 hi84 ?_
  refine zm_iload_n (x := a2) 2 dX8_offBy_85 rfl rfl ?_
  refine zm_iconst dX8_offBy_86 (v := (1 : Int32)) (by decide) ?_
  refine zm_aload_n (x := 0) 0 dX8_offBy_87 rfl rfl ?_
  refine zm_getf (v := .ref 15) (j := 19) dX8_offBy_88 clX8 flX8_52 (Nat.le_of_ble_eq_true rfl) zd_H0 rfl rfl ?_
  refine zm_iload_n (x := a3) 3 dX8_offBy_91 rfl rfl ?_
  refine zm_iald dX8_offBy_92 zd_H15 hi92 ?_
  refine zm_ishl dX8_offBy_93 ?_
  refine zm_ior dX8_offBy_94 ?_
  refine zm_istore_n dX8_offBy_95 rfl (Nat.le_of_ble_eq_true rfl) (ls' := [(2, .int (a2 ||| ((1 : Int32) <<< (((zm_pi w 15 (a3).toNatClampNeg (w.1 3 ((((60 : Int32) * a1) + a3)).toNatClampNeg)).1 15 (a3).toNatClampNeg) &&& 31)))), (0, .ref 0), (1, .int a1), (3, .int a3)]) rfl ?_
  refine zm_iinc 3 dX8_offBy_96 (x := a3) (v := (a3 + (1 : Int32))) rfl rfl (Nat.le_of_ble_eq_true rfl) (ls' := [(3, .int (a3 + (1 : Int32))), (2, .int (a2 ||| ((1 : Int32) <<< (((zm_pi w 15 (a3).toNatClampNeg (w.1 3 ((((60 : Int32) * a1) + a3)).toNatClampNeg)).1 15 (a3).toNatClampNeg) &&& 31)))), (0, .ref 0), (1, .int a1)]) rfl ?_
  refine zm_goto 29 dX8_offBy_99 (by decide) ?_
  refine zm_sub [2, 3, 1, 0] rfl ?_
  exact k
theorem gX8_offBy_102 {d : Nat} {Q : Value → zm_S → Prop} {w : zm_S} {a2 : Int32} {Q' : Value → zm_S → Prop} (hC : zm_C zd_H d mX8_whole [.ref 0] w Q') (k : ∀ (r : Int32) (u : zm_S), Q' (.int r) u → zm_T zd_H (d + 1) mX8_offBy Q 107 [(0, .ref 0)] [.int r, .int a2] u) : zm_T zd_H (d + 1) mX8_offBy Q 102 [(0, .ref 0), (2, .int a2)] [] w := by
  refine zm_iload_n (x := a2) 1 dX8_offBy_102 rfl rfl ?_
  refine zm_aload_n (x := 0) 0 dX8_offBy_103 rfl rfl ?_
  refine zm_callVi (as := []) (rest := [.int a2]) dX8_offBy_104 rfl mtX8_whole lkX8_228 zd_H0 (C := RX8) rfl rfl rfl (Nat.le_of_ble_eq_true rfl) hC rfl (fun r u hq => ?_)
  refine zm_sub [0] rfl ?_
  exact k r u hq
theorem gX8_offBy_107 {d : Nat} {Q : Value → zm_S → Prop} {w : zm_S} {s0 : Int32} {s1 : Int32} (kt : s1 = s0 → zm_T zd_H d mX8_offBy Q 113 [(0, .ref 0)] [] w) (kf : ¬ s1 = s0 → zm_T zd_H d mX8_offBy Q 110 [] [] w) : zm_T zd_H d mX8_offBy Q 107 [(0, .ref 0)] [.int s0, .int s1] w := by
  refine zm_icmp_eq 113 dX8_offBy_107 (by decide) (fun h => ?_) (fun h => ?_)
  · exact kt h
  · refine zm_sub [] rfl ?_
    exact kf h
theorem gX8_offBy_110 {d : Nat} {Q : Value → zm_S → Prop} {w : zm_S} (k : Q (.int (-3 : Int32)) w) : zm_T zd_H d mX8_offBy Q 110 [] [] w := by
  refine zm_bipush dX8_offBy_110 (v := (-3 : Int32)) (by decide) ?_
  exact zm_ireturn dX8_offBy_112 rfl k
theorem gX8_offBy_113 {d : Nat} {Q : Value → zm_S → Prop} {w : zm_S} {Q' : Value → zm_S → Prop} (hC : zm_C zd_H d mX8_findSays [.ref 0] w Q') (k : ∀ (u : zm_S), Q' .null u → zm_T zd_H (d + 1) mX8_offBy Q 117 [(0, .ref 0)] [] u) : zm_T zd_H (d + 1) mX8_offBy Q 113 [(0, .ref 0)] [] w := by
  refine zm_aload_n (x := 0) 0 dX8_offBy_113 rfl rfl ?_
  refine zm_callVv (as := []) (rest := []) dX8_offBy_114 rfl mtX8_findSays lkX8_136 zd_H0 (C := RX8) rfl rfl rfl (Nat.le_of_ble_eq_true rfl) hC rfl (fun u hq => ?_)
  exact k u hq
theorem gX8_offBy_117 {d : Nat} {Q : Value → zm_S → Prop} {w : zm_S} {Q' : Value → zm_S → Prop} (hC : zm_C zd_H d mX8_findWrong [.ref 0, .int (-1 : Int32), .int (-1 : Int32)] w Q') (k : ∀ (u : zm_S), Q' .null u → zm_T zd_H (d + 1) mX8_offBy Q 123 [(0, .ref 0)] [] u) : zm_T zd_H (d + 1) mX8_offBy Q 117 [(0, .ref 0)] [] w := by
  refine zm_aload_n (x := 0) 0 dX8_offBy_117 rfl rfl ?_
  refine zm_iconst dX8_offBy_118 (v := (-1 : Int32)) (by decide) ?_
  refine zm_iconst dX8_offBy_119 (v := (-1 : Int32)) (by decide) ?_
  refine zm_callVv (as := [.int (-1 : Int32), .int (-1 : Int32)]) (rest := []) dX8_offBy_120 rfl mtX8_findWrong lkX8_204 zd_H0 (C := RX8) rfl rfl rfl (Nat.le_of_ble_eq_true rfl) hC rfl (fun u hq => ?_)
  exact k u hq
theorem gX8_offBy_123 {d : Nat} {Q : Value → zm_S → Prop} {w : zm_S} {Q' : Value → zm_S → Prop} (hC : zm_C zd_H d mX8_n [.ref 0] w Q') (k : ∀ (r : Int32) (u : zm_S), Q' (.int r) u → zm_T zd_H (d + 1) mX8_offBy Q 128 [] [.int r, .ref 0] u) : zm_T zd_H (d + 1) mX8_offBy Q 123 [(0, .ref 0)] [] w := by
  refine zm_aload_n (x := 0) 0 dX8_offBy_123 rfl rfl ?_
  refine zm_aload_n (x := 0) 0 dX8_offBy_124 rfl rfl ?_
  refine zm_callVi (as := []) (rest := [.ref 0]) dX8_offBy_125 rfl mtX8_n lkX8_111 zd_H0 (C := RX8) rfl rfl rfl (Nat.le_of_ble_eq_true rfl) hC rfl (fun r u hq => ?_)
  refine zm_sub [] rfl ?_
  exact k r u hq
theorem gX8_offBy_128 {d : Nat} {Q : Value → zm_S → Prop} {w : zm_S} {s0 : Int32} {Q' : Value → zm_S → Prop} (hC : zm_C zd_H d mX8_offNow [.ref 0, .int s0] w Q') (k : ∀ (r : Int32) (u : zm_S), Q' (.int r) u → zm_T zd_H (d + 1) mX8_offBy Q 131 [] [.int r] u) : zm_T zd_H (d + 1) mX8_offBy Q 128 [] [.int s0, .ref 0] w := by
  refine zm_callVi (as := [.int s0]) (rest := []) dX8_offBy_128 rfl mtX8_offNow lkX8_213 zd_H0 (C := RX8) rfl rfl rfl (Nat.le_of_ble_eq_true rfl) hC rfl (fun r u hq => ?_)
  exact k r u hq
theorem gX8_offBy_131 {d : Nat} {Q : Value → zm_S → Prop} {w : zm_S} {s0 : Int32} (k : Q (.int s0) w) : zm_T zd_H d mX8_offBy Q 131 [] [.int s0] w := by
  exact zm_ireturn dX8_offBy_131 rfl k
theorem gX8_allAnswers_0 {d : Nat} {Q : Value → zm_S → Prop} {w : zm_S} {a1 : Int32} (k : zm_T zd_H d mX8_allAnswers Q 4 [(0, .ref 0), (1, .int a1), (2, .int (0 : Int32)), (3, .int (0 : Int32))] [] w) : zm_T zd_H d mX8_allAnswers Q 0 [(0, .ref 0), (1, .int a1)] [] w := by
  refine zm_iconst dX8_allAnswers_0 (v := (0 : Int32)) (by decide) ?_
  refine zm_istore_n dX8_allAnswers_1 rfl (Nat.le_of_ble_eq_true rfl) (ls' := [(2, .int (0 : Int32)), (0, .ref 0), (1, .int a1)]) rfl ?_
  refine zm_iconst dX8_allAnswers_2 (v := (0 : Int32)) (by decide) ?_
  refine zm_istore_n dX8_allAnswers_3 rfl (Nat.le_of_ble_eq_true rfl) (ls' := [(3, .int (0 : Int32)), (2, .int (0 : Int32)), (0, .ref 0), (1, .int a1)]) rfl ?_
  refine zm_sub [2, 3, 1, 0] rfl ?_
  exact k
theorem gX8_allAnswers_4 {d : Nat} {Q : Value → zm_S → Prop} {w : zm_S} {a1 : Int32} {a2 : Int32} {a3 : Int32} (kt : (12 : Int32) ≤ a3 → zm_T zd_H d mX8_allAnswers Q 28 [(2, .int a2)] [] w) (kf : ¬ (12 : Int32) ≤ a3 → zm_T zd_H d mX8_allAnswers Q 10 [(0, .ref 0), (1, .int a1), (2, .int a2), (3, .int a3)] [] w) : zm_T zd_H d mX8_allAnswers Q 4 [(0, .ref 0), (1, .int a1), (2, .int a2), (3, .int a3)] [] w := by
  refine zm_iload_n (x := a3) 3 dX8_allAnswers_4 rfl rfl ?_
  refine zm_bipush dX8_allAnswers_5 (v := (12 : Int32)) (by decide) ?_
  refine zm_icmp_ge 28 dX8_allAnswers_7 (by decide) (fun h => ?_) (fun h => ?_)
  · refine zm_sub [2] rfl ?_
    exact kt h
  · exact kf h
theorem gX8_allAnswers_10 {d : Nat} {Q : Value → zm_S → Prop} {w : zm_S} {a1 : Int32} {a2 : Int32} {a3 : Int32} {Q' : Value → zm_S → Prop} (hC : zm_C zd_H d mX8_bits [.ref 0, .int a3, .int a1] w Q') (k : ∀ (r : Int32) (u : zm_S), Q' (.int r) u → zm_T zd_H (d + 1) mX8_allAnswers Q 17 [(0, .ref 0), (1, .int a1), (3, .int a3)] [.int r, .int a2] u) : zm_T zd_H (d + 1) mX8_allAnswers Q 10 [(0, .ref 0), (1, .int a1), (2, .int a2), (3, .int a3)] [] w := by
  refine zm_iload_n (x := a2) 2 dX8_allAnswers_10 rfl rfl ?_
  refine zm_aload_n (x := 0) 0 dX8_allAnswers_11 rfl rfl ?_
  refine zm_iload_n (x := a3) 3 dX8_allAnswers_12 rfl rfl ?_
  refine zm_iload_n (x := a1) 1 dX8_allAnswers_13 rfl rfl ?_
  refine zm_callVi (as := [.int a3, .int a1]) (rest := [.int a2]) dX8_allAnswers_14 rfl mtX8_bits lkX8_189 zd_H0 (C := RX8) rfl rfl rfl (Nat.le_of_ble_eq_true rfl) hC rfl (fun r u hq => ?_)
  refine zm_sub [0, 1, 3] rfl ?_
  exact k r u hq
theorem gX8_allAnswers_17 {d : Nat} {Q : Value → zm_S → Prop} {w : zm_S} {a1 : Int32} {a3 : Int32} {s0 : Int32} {s1 : Int32} {Q' : Value → zm_S → Prop} (hC : zm_C zd_H d mX8_ones [.int s0] w Q') (k : ∀ (r : Int32) (u : zm_S), Q' (.int r) u → zm_T zd_H (d + 1) mX8_allAnswers Q 20 [(0, .ref 0), (1, .int a1), (3, .int a3)] [.int r, .int s1] u) : zm_T zd_H (d + 1) mX8_allAnswers Q 17 [(0, .ref 0), (1, .int a1), (3, .int a3)] [.int s0, .int s1] w := by
  refine zm_callSi (as := [.int s0]) (rest := [.int s1]) dX8_allAnswers_17 rfl mtX8_ones lkX8_192 rfl (Nat.le_of_ble_eq_true rfl) hC rfl (fun r u hq => ?_)
  exact k r u hq
theorem gX8_allAnswers_20 {d : Nat} {Q : Value → zm_S → Prop} {w : zm_S} {a1 : Int32} {a3 : Int32} {s0 : Int32} {s1 : Int32} (k : zm_T zd_H d mX8_allAnswers Q 4 [(0, .ref 0), (1, .int a1), (2, .int (s1 + s0)), (3, .int (a3 + (1 : Int32)))] [] w) : zm_T zd_H d mX8_allAnswers Q 20 [(0, .ref 0), (1, .int a1), (3, .int a3)] [.int s0, .int s1] w := by
  refine zm_iadd dX8_allAnswers_20 ?_
  refine zm_istore_n dX8_allAnswers_21 rfl (Nat.le_of_ble_eq_true rfl) (ls' := [(2, .int (s1 + s0)), (0, .ref 0), (1, .int a1), (3, .int a3)]) rfl ?_
  refine zm_iinc 3 dX8_allAnswers_22 (x := a3) (v := (a3 + (1 : Int32))) rfl rfl (Nat.le_of_ble_eq_true rfl) (ls' := [(3, .int (a3 + (1 : Int32))), (2, .int (s1 + s0)), (0, .ref 0), (1, .int a1)]) rfl ?_
  refine zm_goto 4 dX8_allAnswers_25 (by decide) ?_
  refine zm_sub [2, 3, 1, 0] rfl ?_
  exact k
theorem gX8_allAnswers_28 {d : Nat} {Q : Value → zm_S → Prop} {w : zm_S} {a2 : Int32} (k : Q (.int a2) w) : zm_T zd_H d mX8_allAnswers Q 28 [(2, .int a2)] [] w := by
  refine zm_iload_n (x := a2) 0 dX8_allAnswers_28 rfl rfl ?_
  exact zm_ireturn dX8_allAnswers_29 rfl k
theorem gX8_shares_0 {d : Nat} {Q : Value → zm_S → Prop} {w : zm_S} (k : zm_T zd_H d mX8_shares Q 4 [(0, .ref 0), (1, .int (0 : Int32)), (2, .int (0 : Int32))] [] w) : zm_T zd_H d mX8_shares Q 0 [(0, .ref 0)] [] w := by
  refine zm_iconst dX8_shares_0 (v := (0 : Int32)) (by decide) ?_
  refine zm_istore_n dX8_shares_1 rfl (Nat.le_of_ble_eq_true rfl) (ls' := [(1, .int (0 : Int32)), (0, .ref 0)]) rfl ?_
  refine zm_iconst dX8_shares_2 (v := (0 : Int32)) (by decide) ?_
  refine zm_istore_n dX8_shares_3 rfl (Nat.le_of_ble_eq_true rfl) (ls' := [(2, .int (0 : Int32)), (1, .int (0 : Int32)), (0, .ref 0)]) rfl ?_
  refine zm_sub [2, 1, 0] rfl ?_
  exact k
theorem gX8_shares_4 {d : Nat} {Q : Value → zm_S → Prop} {w : zm_S} {a1 : Int32} {a2 : Int32} {Q' : Value → zm_S → Prop} (hC : zm_C zd_H d mX8_n [.ref 0] w Q') (k : ∀ (r : Int32) (u : zm_S), Q' (.int r) u → zm_T zd_H (d + 1) mX8_shares Q 9 [(0, .ref 0), (1, .int a1), (2, .int a2)] [.int r, .int a2] u) : zm_T zd_H (d + 1) mX8_shares Q 4 [(0, .ref 0), (1, .int a1), (2, .int a2)] [] w := by
  refine zm_iload_n (x := a2) 2 dX8_shares_4 rfl rfl ?_
  refine zm_aload_n (x := 0) 0 dX8_shares_5 rfl rfl ?_
  refine zm_callVi (as := []) (rest := [.int a2]) dX8_shares_6 rfl mtX8_n lkX8_111 zd_H0 (C := RX8) rfl rfl rfl (Nat.le_of_ble_eq_true rfl) hC rfl (fun r u hq => ?_)
  exact k r u hq
theorem gX8_shares_9 {d : Nat} {Q : Value → zm_S → Prop} {w : zm_S} {a1 : Int32} {a2 : Int32} {s0 : Int32} {s1 : Int32} (kt : s0 ≤ s1 → zm_T zd_H d mX8_shares Q 103 [(1, .int a1)] [] w) (kf : ¬ s0 ≤ s1 → zm_T zd_H d mX8_shares Q 12 [(0, .ref 0), (1, .int a1), (2, .int a2)] [] w) : zm_T zd_H d mX8_shares Q 9 [(0, .ref 0), (1, .int a1), (2, .int a2)] [.int s0, .int s1] w := by
  refine zm_icmp_ge 103 dX8_shares_9 (by decide) (fun h => ?_) (fun h => ?_)
  · refine zm_sub [1] rfl ?_
    exact kt h
  · exact kf h
theorem gX8_shares_12 {d : Nat} {Q : Value → zm_S → Prop} {w : zm_S} {a1 : Int32} {a2 : Int32} (k : zm_T zd_H d mX8_shares Q 20 [(0, .ref 0), (1, .int a1), (2, .int a2), (3, .int (0 : Int32)), (4, .int (0 : Int32)), (5, .int (0 : Int32))] [] w) : zm_T zd_H d mX8_shares Q 12 [(0, .ref 0), (1, .int a1), (2, .int a2)] [] w := by
  refine zm_iconst dX8_shares_12 (v := (0 : Int32)) (by decide) ?_
  refine zm_istore_n dX8_shares_13 rfl (Nat.le_of_ble_eq_true rfl) (ls' := [(3, .int (0 : Int32)), (0, .ref 0), (1, .int a1), (2, .int a2)]) rfl ?_
  refine zm_iconst dX8_shares_14 (v := (0 : Int32)) (by decide) ?_
  refine zm_istore dX8_shares_15 (Nat.le_of_ble_eq_true rfl) (ls' := [(4, .int (0 : Int32)), (3, .int (0 : Int32)), (0, .ref 0), (1, .int a1), (2, .int a2)]) rfl ?_
  refine zm_iconst dX8_shares_17 (v := (0 : Int32)) (by decide) ?_
  refine zm_istore dX8_shares_18 (Nat.le_of_ble_eq_true rfl) (ls' := [(5, .int (0 : Int32)), (4, .int (0 : Int32)), (3, .int (0 : Int32)), (0, .ref 0), (1, .int a1), (2, .int a2)]) rfl ?_
  refine zm_sub [3, 4, 5, 2, 1, 0] rfl ?_
  exact k
theorem gX8_shares_20 {d : Nat} {Q : Value → zm_S → Prop} {w : zm_S} {a1 : Int32} {a2 : Int32} {a3 : Int32} {a4 : Int32} {a5 : Int32} (kt : (12 : Int32) ≤ a5 → zm_T zd_H d mX8_shares Q 82 [(0, .ref 0), (1, .int a1), (2, .int a2), (3, .int a3), (4, .int a4)] [] w) (kf : ¬ (12 : Int32) ≤ a5 → zm_T zd_H d mX8_shares Q 27 [(0, .ref 0), (1, .int a1), (2, .int a2), (3, .int a3), (4, .int a4), (5, .int a5)] [] w) : zm_T zd_H d mX8_shares Q 20 [(0, .ref 0), (1, .int a1), (2, .int a2), (3, .int a3), (4, .int a4), (5, .int a5)] [] w := by
  refine zm_iload (x := a5) 5 dX8_shares_20 rfl ?_
  refine zm_bipush dX8_shares_22 (v := (12 : Int32)) (by decide) ?_
  refine zm_icmp_ge 82 dX8_shares_24 (by decide) (fun h => ?_) (fun h => ?_)
  · refine zm_sub [0, 1, 2, 3, 4] rfl ?_
    exact kt h
  · exact kf h
theorem gX8_shares_27 {d : Nat} {Q : Value → zm_S → Prop} {w : zm_S} {a1 : Int32} {a2 : Int32} {a3 : Int32} {a4 : Int32} {a5 : Int32} (hi39 : vp_in (((7 : Int32) * a5) + a2) 84) (kt : ¬ (w.1 10 ((((7 : Int32) * a5) + a2)).toNatClampNeg) = (1 : Int32) → zm_T zd_H d mX8_shares Q 48 [(0, .ref 0), (1, .int a1), (2, .int a2), (4, .int a4), (5, .int a5)] [.int a3] w) (kf : (w.1 10 ((((7 : Int32) * a5) + a2)).toNatClampNeg) = (1 : Int32) → zm_T zd_H d mX8_shares Q 44 [(0, .ref 0), (1, .int a1), (2, .int a2), (4, .int a4), (5, .int a5)] [.int a3] w) : zm_T zd_H d mX8_shares Q 27 [(0, .ref 0), (1, .int a1), (2, .int a2), (3, .int a3), (4, .int a4), (5, .int a5)] [] w := by
  refine zm_iload_n (x := a3) 3 dX8_shares_27 rfl rfl ?_
  refine zm_aload_n (x := 0) 0 dX8_shares_28 rfl rfl ?_
  refine zm_getf (v := .ref 10) (j := 11) dX8_shares_29 clX8 flX8_37 (Nat.le_of_ble_eq_true rfl) zd_H0 rfl rfl ?_
  refine zm_bipush dX8_shares_32 (v := (7 : Int32)) (by decide) ?_
  refine zm_iload (x := a5) 5 dX8_shares_34 rfl ?_
  refine zm_imul dX8_shares_36 ?_
  refine zm_iload_n (x := a2) 2 dX8_shares_37 rfl rfl ?_
  refine zm_iadd dX8_shares_38 ?_
  refine zm_iald dX8_shares_39 zd_H10 hi39 ?_
  refine zm_iconst dX8_shares_40 (v := (1 : Int32)) (by decide) ?_
  refine zm_icmp_ne 48 dX8_shares_41 (by decide) (fun h => ?_) (fun h => ?_)
  · refine zm_sub [0, 1, 2, 4, 5] rfl ?_
    exact kt h
  · refine zm_sub [0, 1, 2, 4, 5] rfl ?_
    exact kf h
theorem gX8_shares_44 {d : Nat} {Q : Value → zm_S → Prop} {w : zm_S} {a1 : Int32} {a2 : Int32} {a4 : Int32} {a5 : Int32} {s0 : Int32} (k : zm_T zd_H d mX8_shares Q 49 [(0, .ref 0), (1, .int a1), (2, .int a2), (4, .int a4), (5, .int a5)] [.int (1 : Int32), .int s0] w) : zm_T zd_H d mX8_shares Q 44 [(0, .ref 0), (1, .int a1), (2, .int a2), (4, .int a4), (5, .int a5)] [.int s0] w := by
  refine zm_iconst dX8_shares_44 (v := (1 : Int32)) (by decide) ?_
  refine zm_goto 49 dX8_shares_45 (by decide) ?_
  exact k
theorem gX8_shares_48 {d : Nat} {Q : Value → zm_S → Prop} {w : zm_S} {a1 : Int32} {a2 : Int32} {a4 : Int32} {a5 : Int32} {s0 : Int32} (k : zm_T zd_H d mX8_shares Q 49 [(0, .ref 0), (1, .int a1), (2, .int a2), (4, .int a4), (5, .int a5)] [.int (0 : Int32), .int s0] w) : zm_T zd_H d mX8_shares Q 48 [(0, .ref 0), (1, .int a1), (2, .int a2), (4, .int a4), (5, .int a5)] [.int s0] w := by
  refine zm_iconst dX8_shares_48 (v := (0 : Int32)) (by decide) ?_
  exact k
theorem gX8_shares_49 {d : Nat} {Q : Value → zm_S → Prop} {w : zm_S} {a1 : Int32} {a2 : Int32} {a4 : Int32} {a5 : Int32} {s0 : Int32} {s1 : Int32} (hi64 : vp_in (((7 : Int32) * a5) + a2) 84) (kt : ¬ (w.1 10 ((((7 : Int32) * a5) + a2)).toNatClampNeg) = 0 → zm_T zd_H d mX8_shares Q 72 [(0, .ref 0), (1, .int a1), (2, .int a2), (3, .int (s1 + s0)), (5, .int a5)] [.int a4] w) (kf : (w.1 10 ((((7 : Int32) * a5) + a2)).toNatClampNeg) = 0 → zm_T zd_H d mX8_shares Q 68 [(0, .ref 0), (1, .int a1), (2, .int a2), (3, .int (s1 + s0)), (5, .int a5)] [.int a4] w) : zm_T zd_H d mX8_shares Q 49 [(0, .ref 0), (1, .int a1), (2, .int a2), (4, .int a4), (5, .int a5)] [.int s0, .int s1] w := by
  refine zm_iadd dX8_shares_49 ?_
  refine zm_istore_n dX8_shares_50 rfl (Nat.le_of_ble_eq_true rfl) (ls' := [(3, .int (s1 + s0)), (0, .ref 0), (1, .int a1), (2, .int a2), (4, .int a4), (5, .int a5)]) rfl ?_
  refine zm_iload (x := a4) 4 dX8_shares_51 rfl ?_
  refine zm_aload_n (x := 0) 1 dX8_shares_53 rfl rfl ?_
  refine zm_getf (v := .ref 10) (j := 11) dX8_shares_54 clX8 flX8_37 (Nat.le_of_ble_eq_true rfl) zd_H0 rfl rfl ?_
  refine zm_bipush dX8_shares_57 (v := (7 : Int32)) (by decide) ?_
  refine zm_iload (x := a5) 5 dX8_shares_59 rfl ?_
  refine zm_imul dX8_shares_61 ?_
  refine zm_iload_n (x := a2) 3 dX8_shares_62 rfl rfl ?_
  refine zm_iadd dX8_shares_63 ?_
  refine zm_iald dX8_shares_64 zd_H10 hi64 ?_
  refine zm_if_ne 72 dX8_shares_65 (by decide) (fun h => ?_) (fun h => ?_)
  · refine zm_sub [1, 2, 3, 0, 5] rfl ?_
    exact kt h
  · refine zm_sub [1, 2, 3, 0, 5] rfl ?_
    exact kf h
theorem gX8_shares_68 {d : Nat} {Q : Value → zm_S → Prop} {w : zm_S} {a1 : Int32} {a2 : Int32} {a3 : Int32} {a5 : Int32} {s0 : Int32} (k : zm_T zd_H d mX8_shares Q 73 [(0, .ref 0), (1, .int a1), (2, .int a2), (3, .int a3), (5, .int a5)] [.int (1 : Int32), .int s0] w) : zm_T zd_H d mX8_shares Q 68 [(0, .ref 0), (1, .int a1), (2, .int a2), (3, .int a3), (5, .int a5)] [.int s0] w := by
  refine zm_iconst dX8_shares_68 (v := (1 : Int32)) (by decide) ?_
  refine zm_goto 73 dX8_shares_69 (by decide) ?_
  exact k
theorem gX8_shares_72 {d : Nat} {Q : Value → zm_S → Prop} {w : zm_S} {a1 : Int32} {a2 : Int32} {a3 : Int32} {a5 : Int32} {s0 : Int32} (k : zm_T zd_H d mX8_shares Q 73 [(0, .ref 0), (1, .int a1), (2, .int a2), (3, .int a3), (5, .int a5)] [.int (0 : Int32), .int s0] w) : zm_T zd_H d mX8_shares Q 72 [(0, .ref 0), (1, .int a1), (2, .int a2), (3, .int a3), (5, .int a5)] [.int s0] w := by
  refine zm_iconst dX8_shares_72 (v := (0 : Int32)) (by decide) ?_
  exact k
theorem gX8_shares_73 {d : Nat} {Q : Value → zm_S → Prop} {w : zm_S} {a1 : Int32} {a2 : Int32} {a3 : Int32} {a5 : Int32} {s0 : Int32} {s1 : Int32} (k : zm_T zd_H d mX8_shares Q 20 [(0, .ref 0), (1, .int a1), (2, .int a2), (3, .int a3), (4, .int (s1 + s0)), (5, .int (a5 + (1 : Int32)))] [] w) : zm_T zd_H d mX8_shares Q 73 [(0, .ref 0), (1, .int a1), (2, .int a2), (3, .int a3), (5, .int a5)] [.int s0, .int s1] w := by
  refine zm_iadd dX8_shares_73 ?_
  refine zm_istore dX8_shares_74 (Nat.le_of_ble_eq_true rfl) (ls' := [(4, .int (s1 + s0)), (0, .ref 0), (1, .int a1), (2, .int a2), (3, .int a3), (5, .int a5)]) rfl ?_
  refine zm_iinc 5 dX8_shares_76 (x := a5) (v := (a5 + (1 : Int32))) rfl rfl (Nat.le_of_ble_eq_true rfl) (ls' := [(5, .int (a5 + (1 : Int32))), (4, .int (s1 + s0)), (0, .ref 0), (1, .int a1), (2, .int a2), (3, .int a3)]) rfl ?_
  refine zm_goto 20 dX8_shares_79 (by decide) ?_
  refine zm_sub [2, 3, 4, 5, 1, 0] rfl ?_
  exact k
theorem gX8_shares_82 {d : Nat} {Q : Value → zm_S → Prop} {w : zm_S} {a1 : Int32} {a2 : Int32} {a3 : Int32} {a4 : Int32} (kt : a3 ≤ a4 → zm_T zd_H d mX8_shares Q 93 [(0, .ref 0), (2, .int a2), (4, .int a4)] [.int a1] w) (kf : ¬ a3 ≤ a4 → zm_T zd_H d mX8_shares Q 89 [(0, .ref 0), (2, .int a2), (3, .int a3)] [.int a1] w) : zm_T zd_H d mX8_shares Q 82 [(0, .ref 0), (1, .int a1), (2, .int a2), (3, .int a3), (4, .int a4)] [] w := by
  refine zm_iload_n (x := a1) 1 dX8_shares_82 rfl rfl ?_
  refine zm_iload_n (x := a3) 3 dX8_shares_83 rfl rfl ?_
  refine zm_iload (x := a4) 4 dX8_shares_84 rfl ?_
  refine zm_icmp_le 93 dX8_shares_86 (by decide) (fun h => ?_) (fun h => ?_)
  · refine zm_sub [0, 2, 4] rfl ?_
    exact kt h
  · refine zm_sub [0, 2, 3] rfl ?_
    exact kf h
theorem gX8_shares_89 {d : Nat} {Q : Value → zm_S → Prop} {w : zm_S} {a2 : Int32} {a3 : Int32} {s0 : Int32} (k : zm_T zd_H d mX8_shares Q 95 [(0, .ref 0), (2, .int a2)] [.int a3, .int s0] w) : zm_T zd_H d mX8_shares Q 89 [(0, .ref 0), (2, .int a2), (3, .int a3)] [.int s0] w := by
  refine zm_iload_n (x := a3) 2 dX8_shares_89 rfl rfl ?_
  refine zm_goto 95 dX8_shares_90 (by decide) ?_
  refine zm_sub [0, 1] rfl ?_
  exact k
theorem gX8_shares_93 {d : Nat} {Q : Value → zm_S → Prop} {w : zm_S} {a2 : Int32} {a4 : Int32} {s0 : Int32} (k : zm_T zd_H d mX8_shares Q 95 [(0, .ref 0), (2, .int a2)] [.int a4, .int s0] w) : zm_T zd_H d mX8_shares Q 93 [(0, .ref 0), (2, .int a2), (4, .int a4)] [.int s0] w := by
  refine zm_iload (x := a4) 2 dX8_shares_93 rfl ?_
  refine zm_sub [0, 1] rfl ?_
  exact k
theorem gX8_shares_95 {d : Nat} {Q : Value → zm_S → Prop} {w : zm_S} {a2 : Int32} {s0 : Int32} {s1 : Int32} (k : zm_T zd_H d mX8_shares Q 4 [(0, .ref 0), (1, .int (s1 + s0)), (2, .int (a2 + (1 : Int32)))] [] w) : zm_T zd_H d mX8_shares Q 95 [(0, .ref 0), (2, .int a2)] [.int s0, .int s1] w := by
  refine zm_iadd dX8_shares_95 ?_
  refine zm_istore_n dX8_shares_96 rfl (Nat.le_of_ble_eq_true rfl) (ls' := [(1, .int (s1 + s0)), (0, .ref 0), (2, .int a2)]) rfl ?_
  refine zm_iinc 2 dX8_shares_97 (x := a2) (v := (a2 + (1 : Int32))) rfl rfl (Nat.le_of_ble_eq_true rfl) (ls' := [(2, .int (a2 + (1 : Int32))), (1, .int (s1 + s0)), (0, .ref 0)]) rfl ?_
  refine zm_goto 4 dX8_shares_100 (by decide) ?_
  refine zm_sub [2, 1, 0] rfl ?_
  exact k
theorem gX8_shares_103 {d : Nat} {Q : Value → zm_S → Prop} {w : zm_S} {a1 : Int32} (k : Q (.int a1) w) : zm_T zd_H d mX8_shares Q 103 [(1, .int a1)] [] w := by
  refine zm_iload_n (x := a1) 0 dX8_shares_103 rfl rfl ?_
  exact zm_ireturn dX8_shares_104 rfl k
theorem gX8_part_0 {d : Nat} {Q : Value → zm_S → Prop} {w : zm_S} {a0 : Int64} {a2 : Int64} {a4 : Int32} (k : zm_T zd_H d mX8_part Q 6 [(0, .long a0), (2, .long a2), (4, .int a4), (5, .long a0), (7, .long a2)] [] w) : zm_T zd_H d mX8_part Q 0 [(0, .long a0), (2, .long a2), (4, .int a4)] [] w := by
  refine zm_lload_n (x := a0) 0 dX8_part_0 rfl rfl ?_
  refine zm_lstore dX8_part_1 (Nat.le_of_ble_eq_true rfl) (ls' := [(5, .long a0), (0, .long a0), (2, .long a2), (4, .int a4)]) rfl ?_
  refine zm_lload_n (x := a2) 2 dX8_part_3 rfl rfl ?_
  refine zm_lstore dX8_part_4 (Nat.le_of_ble_eq_true rfl) (ls' := [(7, .long a2), (5, .long a0), (0, .long a0), (2, .long a2), (4, .int a4)]) rfl ?_
  refine zm_sub [2, 3, 4, 1, 0] rfl ?_
  exact k
theorem gX8_part_6 {d : Nat} {Q : Value → zm_S → Prop} {w : zm_S} {a0 : Int64} {a2 : Int64} {a4 : Int32} {a5 : Int64} {a7 : Int64} (kt : (lg_cmp a7 (0 : Int64)) = 0 → zm_T zd_H d mX8_part Q 31 [(0, .long a0), (2, .long a2), (4, .int a4), (5, .long a5)] [] w) (kf : ¬ (lg_cmp a7 (0 : Int64)) = 0 → zm_T zd_H d mX8_part Q 13 [(0, .long a0), (2, .long a2), (4, .int a4), (5, .long a5), (7, .long a7)] [] w) : zm_T zd_H d mX8_part Q 6 [(0, .long a0), (2, .long a2), (4, .int a4), (5, .long a5), (7, .long a7)] [] w := by
  refine zm_lload (x := a7) 4 dX8_part_6 rfl ?_
  refine zm_lconst dX8_part_8 (v := (0 : Int64)) (by decide) ?_
  refine zm_lcmp dX8_part_9 ?_
  refine zm_if_eq 31 dX8_part_10 (by decide) (fun h => ?_) (fun h => ?_)
  · refine zm_sub [0, 1, 2, 3] rfl ?_
    exact kt h
  · exact kf h
theorem gX8_part_13 {d : Nat} {Q : Value → zm_S → Prop} {w : zm_S} {a0 : Int64} {a2 : Int64} {a4 : Int32} {a5 : Int64} {a7 : Int64} (hn17 : ¬ a7 = 0) (k : zm_T zd_H d mX8_part Q 6 [(0, .long a0), (2, .long a2), (4, .int a4), (5, .long a7), (7, .long (a5 - a5 / a7 * a7))] [] w) : zm_T zd_H d mX8_part Q 13 [(0, .long a0), (2, .long a2), (4, .int a4), (5, .long a5), (7, .long a7)] [] w := by
  refine zm_lload (x := a5) 3 dX8_part_13 rfl ?_
  refine zm_lload (x := a7) 4 dX8_part_15 rfl ?_
  refine zm_lrem dX8_part_17 hn17 ?_
  refine zm_lstore dX8_part_18 (Nat.le_of_ble_eq_true rfl) (ls' := [(9, .long (a5 - a5 / a7 * a7)), (0, .long a0), (2, .long a2), (4, .int a4), (5, .long a5), (7, .long a7)]) rfl ?_
  refine zm_lload (x := a7) 5 dX8_part_20 rfl ?_
  refine zm_lstore dX8_part_22 (Nat.le_of_ble_eq_true rfl) (ls' := [(5, .long a7), (9, .long (a5 - a5 / a7 * a7)), (0, .long a0), (2, .long a2), (4, .int a4), (7, .long a7)]) rfl ?_
  refine zm_lload (x := (a5 - a5 / a7 * a7)) 1 dX8_part_24 rfl ?_
  refine zm_lstore dX8_part_26 (Nat.le_of_ble_eq_true rfl) (ls' := [(7, .long (a5 - a5 / a7 * a7)), (5, .long a7), (9, .long (a5 - a5 / a7 * a7)), (0, .long a0), (2, .long a2), (4, .int a4)]) rfl ?_
  refine zm_goto 6 dX8_part_28 (by decide) ?_
  refine zm_sub [3, 4, 5, 1, 0] rfl ?_
  exact k
theorem gX8_part_31 {d : Nat} {Q : Value → zm_S → Prop} {w : zm_S} {a0 : Int64} {a2 : Int64} {a4 : Int32} {a5 : Int64} (kt : ¬ a4 = 0 → zm_T zd_H d mX8_part Q 40 [(2, .long a2), (5, .long a5)] [] w) (kf : a4 = 0 → zm_T zd_H d mX8_part Q 36 [(0, .long a0), (5, .long a5)] [] w) : zm_T zd_H d mX8_part Q 31 [(0, .long a0), (2, .long a2), (4, .int a4), (5, .long a5)] [] w := by
  refine zm_iload (x := a4) 2 dX8_part_31 rfl ?_
  refine zm_if_ne 40 dX8_part_33 (by decide) (fun h => ?_) (fun h => ?_)
  · refine zm_sub [1, 3] rfl ?_
    exact kt h
  · refine zm_sub [0, 3] rfl ?_
    exact kf h
theorem gX8_part_36 {d : Nat} {Q : Value → zm_S → Prop} {w : zm_S} {a0 : Int64} {a5 : Int64} (hn43 : ¬ a5 = 0) (k : Q (.long (a0 / a5)) w) : zm_T zd_H d mX8_part Q 36 [(0, .long a0), (5, .long a5)] [] w := by
  refine zm_lload_n (x := a0) 0 dX8_part_36 rfl rfl ?_
  refine zm_goto 41 dX8_part_37 (by decide) ?_
  refine zm_lload (x := a5) 1 dX8_part_41 rfl ?_
  refine zm_ldiv dX8_part_43 hn43 ?_
  exact zm_lreturn dX8_part_44 rfl k
theorem gX8_part_40 {d : Nat} {Q : Value → zm_S → Prop} {w : zm_S} {a2 : Int64} {a5 : Int64} (hn43 : ¬ a5 = 0) (k : Q (.long (a2 / a5)) w) : zm_T zd_H d mX8_part Q 40 [(2, .long a2), (5, .long a5)] [] w := by
  refine zm_lload_n (x := a2) 0 dX8_part_40 rfl rfl ?_
  refine zm_lload (x := a5) 1 dX8_part_41 rfl ?_
  refine zm_ldiv dX8_part_43 hn43 ?_
  exact zm_lreturn dX8_part_44 rfl k
theorem gX8_fitOf_0 {d : Nat} {Q : Value → zm_S → Prop} {w : zm_S} {a1 : Int32} {a2 : Int32} {Q' : Value → zm_S → Prop} (hC : zm_C zd_H d mX8_findBest [.ref 0] w Q') (k : ∀ (u : zm_S), Q' .null u → zm_T zd_H (d + 1) mX8_fitOf Q 4 [(0, .ref 0), (1, .int a1), (2, .int a2)] [] u) : zm_T zd_H (d + 1) mX8_fitOf Q 0 [(0, .ref 0), (1, .int a1), (2, .int a2)] [] w := by
  refine zm_aload_n (x := 0) 0 dX8_fitOf_0 rfl rfl ?_
  refine zm_callVv (as := []) (rest := []) dX8_fitOf_1 rfl mtX8_findBest lkX8_222 zd_H0 (C := RX8) rfl rfl rfl (Nat.le_of_ble_eq_true rfl) hC rfl (fun u hq => ?_)
  exact k u hq
theorem gX8_fitOf_4 {d : Nat} {Q : Value → zm_S → Prop} {w : zm_S} {a1 : Int32} {a2 : Int32} {Q' : Value → zm_S → Prop} (hC : zm_C zd_H d mX8_allAnswers [.ref 0, .int (0 : Int32)] w Q') (k : ∀ (r : Int32) (u : zm_S), Q' (.int r) u → zm_T zd_H (d + 1) mX8_fitOf Q 9 [(0, .ref 0), (1, .int a1), (2, .int a2)] [.int r] u) : zm_T zd_H (d + 1) mX8_fitOf Q 4 [(0, .ref 0), (1, .int a1), (2, .int a2)] [] w := by
  refine zm_aload_n (x := 0) 0 dX8_fitOf_4 rfl rfl ?_
  refine zm_iconst dX8_fitOf_5 (v := (0 : Int32)) (by decide) ?_
  refine zm_callVi (as := [.int (0 : Int32)]) (rest := []) dX8_fitOf_6 rfl mtX8_allAnswers lkX8_231 zd_H0 (C := RX8) rfl rfl rfl (Nat.le_of_ble_eq_true rfl) hC rfl (fun r u hq => ?_)
  exact k r u hq
theorem gX8_fitOf_9 {d : Nat} {Q : Value → zm_S → Prop} {w : zm_S} {a1 : Int32} {a2 : Int32} {s0 : Int32} {Q' : Value → zm_S → Prop} (hC : zm_C zd_H d mX8_allAnswers [.ref 0, .int (1 : Int32)] w Q') (k : ∀ (r : Int32) (u : zm_S), Q' (.int r) u → zm_T zd_H (d + 1) mX8_fitOf Q 14 [(0, .ref 0), (1, .int a1), (2, .int a2)] [.int r, .int s0] u) : zm_T zd_H (d + 1) mX8_fitOf Q 9 [(0, .ref 0), (1, .int a1), (2, .int a2)] [.int s0] w := by
  refine zm_aload_n (x := 0) 0 dX8_fitOf_9 rfl rfl ?_
  refine zm_iconst dX8_fitOf_10 (v := (1 : Int32)) (by decide) ?_
  refine zm_callVi (as := [.int (1 : Int32)]) (rest := [.int s0]) dX8_fitOf_11 rfl mtX8_allAnswers lkX8_231 zd_H0 (C := RX8) rfl rfl rfl (Nat.le_of_ble_eq_true rfl) hC rfl (fun r u hq => ?_)
  exact k r u hq
theorem gX8_fitOf_14 {d : Nat} {Q : Value → zm_S → Prop} {w : zm_S} {a1 : Int32} {a2 : Int32} {s0 : Int32} {s1 : Int32} (kt : ¬ (s1 + s0) = 0 → zm_T zd_H d mX8_fitOf Q 28 [(0, .ref 0), (1, .int a1), (2, .int a2), (3, .int (s1 + s0))] [] w) (kf : (s1 + s0) = 0 → zm_T zd_H d mX8_fitOf Q 20 [] [] w) : zm_T zd_H d mX8_fitOf Q 14 [(0, .ref 0), (1, .int a1), (2, .int a2)] [.int s0, .int s1] w := by
  refine zm_iadd dX8_fitOf_14 ?_
  refine zm_istore_n dX8_fitOf_15 rfl (Nat.le_of_ble_eq_true rfl) (ls' := [(3, .int (s1 + s0)), (0, .ref 0), (1, .int a1), (2, .int a2)]) rfl ?_
  refine zm_iload_n (x := (s1 + s0)) 0 dX8_fitOf_16 rfl rfl ?_
  refine zm_if_ne 28 dX8_fitOf_17 (by decide) (fun h => ?_) (fun h => ?_)
  · refine zm_sub [1, 2, 3, 0] rfl ?_
    exact kt h
  · refine zm_sub [] rfl ?_
    exact kf h
theorem gX8_fitOf_20 {d : Nat} {Q : Value → zm_S → Prop} {w : zm_S} {Q' : Value → zm_S → Prop} (hC : zm_C zd_H d mX8_no [.int (-3 : Int32)] w Q') (k : ∀ (r : Int64) (u : zm_S), Q' (.long r) u → zm_T zd_H (d + 1) mX8_fitOf Q 25 [] [.long r] u) : zm_T zd_H (d + 1) mX8_fitOf Q 20 [] [] w := by
  refine zm_bipush dX8_fitOf_20 (v := (-3 : Int32)) (by decide) ?_
  refine zm_callSl (as := [.int (-3 : Int32)]) (rest := []) dX8_fitOf_22 rfl mtX8_no lkX8_234 rfl (Nat.le_of_ble_eq_true rfl) hC rfl (fun r u hq => ?_)
  exact k r u hq
theorem gX8_fitOf_25 {d : Nat} {Q : Value → zm_S → Prop} {w : zm_S} {s0 : Int64} (k : zm_T zd_H d mX8_fitOf Q 53 [] [.long s0] w) : zm_T zd_H d mX8_fitOf Q 25 [] [.long s0] w := by
  refine zm_goto 53 dX8_fitOf_25 (by decide) ?_
  exact k
theorem gX8_fitOf_28 {d : Nat} {Q : Value → zm_S → Prop} {w : zm_S} {a1 : Int32} {a2 : Int32} {a3 : Int32} (kt : ¬ a1 = 0 → zm_T zd_H d mX8_fitOf Q 42 [(0, .ref 0), (2, .int a2), (3, .int a3)] [] w) (kf : a1 = 0 → zm_T zd_H d mX8_fitOf Q 32 [(0, .ref 0), (2, .int a2), (3, .int a3)] [] w) : zm_T zd_H d mX8_fitOf Q 28 [(0, .ref 0), (1, .int a1), (2, .int a2), (3, .int a3)] [] w := by
  refine zm_iload_n (x := a1) 1 dX8_fitOf_28 rfl rfl ?_
  refine zm_if_ne 42 dX8_fitOf_29 (by decide) (fun h => ?_) (fun h => ?_)
  · refine zm_sub [0, 2, 3] rfl ?_
    exact kt h
  · refine zm_sub [0, 2, 3] rfl ?_
    exact kf h
theorem gX8_fitOf_32 {d : Nat} {Q : Value → zm_S → Prop} {w : zm_S} {a2 : Int32} {a3 : Int32} (k : zm_T zd_H d mX8_fitOf Q 47 [(2, .int a2), (3, .int a3)] [.long (((a3 - (w.1 0 21))).toInt64)] w) : zm_T zd_H d mX8_fitOf Q 32 [(0, .ref 0), (2, .int a2), (3, .int a3)] [] w := by
  refine zm_iload_n (x := a3) 2 dX8_fitOf_32 rfl rfl ?_
  refine zm_aload_n (x := 0) 0 dX8_fitOf_33 rfl rfl ?_
  refine zm_getf (v := .int (w.1 0 21)) (j := 21) dX8_fitOf_34 clX8 flX8_207 (Nat.le_of_ble_eq_true rfl) zd_H0 rfl rfl ?_
  refine zm_isub dX8_fitOf_37 ?_
  refine zm_i2l dX8_fitOf_38 ?_
  refine zm_goto 47 dX8_fitOf_39 (by decide) ?_
  refine zm_sub [1, 2] rfl ?_
  exact k
theorem gX8_fitOf_42 {d : Nat} {Q : Value → zm_S → Prop} {w : zm_S} {a2 : Int32} {a3 : Int32} {Q' : Value → zm_S → Prop} (hC : zm_C zd_H d mX8_shares [.ref 0] w Q') (k : ∀ (r : Int32) (u : zm_S), Q' (.int r) u → zm_T zd_H (d + 1) mX8_fitOf Q 46 [(2, .int a2), (3, .int a3)] [.int r] u) : zm_T zd_H (d + 1) mX8_fitOf Q 42 [(0, .ref 0), (2, .int a2), (3, .int a3)] [] w := by
  refine zm_aload_n (x := 0) 0 dX8_fitOf_42 rfl rfl ?_
  refine zm_callVi (as := []) (rest := []) dX8_fitOf_43 rfl mtX8_shares lkX8_238 zd_H0 (C := RX8) rfl rfl rfl (Nat.le_of_ble_eq_true rfl) hC rfl (fun r u hq => ?_)
  refine zm_sub [1, 2] rfl ?_
  exact k r u hq
theorem gX8_fitOf_46 {d : Nat} {Q : Value → zm_S → Prop} {w : zm_S} {a2 : Int32} {a3 : Int32} {s0 : Int32} (k : zm_T zd_H d mX8_fitOf Q 47 [(2, .int a2), (3, .int a3)] [.long ((s0).toInt64)] w) : zm_T zd_H d mX8_fitOf Q 46 [(2, .int a2), (3, .int a3)] [.int s0] w := by
  refine zm_i2l dX8_fitOf_46 ?_
  exact k
theorem gX8_fitOf_47 {d : Nat} {Q : Value → zm_S → Prop} {w : zm_S} {a2 : Int32} {a3 : Int32} {s0 : Int64} {Q' : Value → zm_S → Prop} (hC : zm_C zd_H d mX8_part [.long s0, .long ((a3).toInt64), .int a2] w Q') (k : ∀ (r : Int64) (u : zm_S), Q' (.long r) u → zm_T zd_H (d + 1) mX8_fitOf Q 53 [] [.long r] u) : zm_T zd_H (d + 1) mX8_fitOf Q 47 [(2, .int a2), (3, .int a3)] [.long s0] w := by
  refine zm_iload_n (x := a3) 1 dX8_fitOf_47 rfl rfl ?_
  refine zm_i2l dX8_fitOf_48 ?_
  refine zm_iload_n (x := a2) 0 dX8_fitOf_49 rfl rfl ?_
  refine zm_callSl (as := [.long s0, .long ((a3).toInt64), .int a2]) (rest := []) dX8_fitOf_50 rfl mtX8_part lkX8_241 rfl (Nat.le_of_ble_eq_true rfl) hC rfl (fun r u hq => ?_)
  refine zm_sub [] rfl ?_
  exact k r u hq
theorem gX8_fitOf_53 {d : Nat} {Q : Value → zm_S → Prop} {w : zm_S} {s0 : Int64} (k : Q (.long s0) w) : zm_T zd_H d mX8_fitOf Q 53 [] [.long s0] w := by
  exact zm_lreturn dX8_fitOf_53 rfl k
theorem gX8_fit_0 {d : Nat} {Q : Value → zm_S → Prop} {w : zm_S} {a1 : Int32} {a2 : Int32} {Q' : Value → zm_S → Prop} (hC : zm_C zd_H d mX8_isTwo [.int a1] w Q') (k : ∀ (r : Int32) (u : zm_S), Q' (.int r) u → zm_T zd_H (d + 1) mX8_fit Q 4 [(0, .ref 0), (1, .int a1), (2, .int a2)] [.int r] u) : zm_T zd_H (d + 1) mX8_fit Q 0 [(0, .ref 0), (1, .int a1), (2, .int a2)] [] w := by
  refine zm_iload_n (x := a1) 1 dX8_fit_0 rfl rfl ?_
  refine zm_callSz (as := [.int a1]) (rest := []) dX8_fit_1 rfl mtX8_isTwo lkX8_179 rfl (Nat.le_of_ble_eq_true rfl) hC rfl (fun r u hq => ?_)
  exact k r u hq
theorem gX8_fit_4 {d : Nat} {Q : Value → zm_S → Prop} {w : zm_S} {a1 : Int32} {a2 : Int32} {s0 : Int32} (kt : s0 = 0 → zm_T zd_H d mX8_fit Q 23 [] [] w) (kf : ¬ s0 = 0 → zm_T zd_H d mX8_fit Q 7 [(0, .ref 0), (1, .int a1), (2, .int a2)] [] w) : zm_T zd_H d mX8_fit Q 4 [(0, .ref 0), (1, .int a1), (2, .int a2)] [.int s0] w := by
  refine zm_if_eq 23 dX8_fit_4 (by decide) (fun h => ?_) (fun h => ?_)
  · refine zm_sub [] rfl ?_
    exact kt h
  · exact kf h
