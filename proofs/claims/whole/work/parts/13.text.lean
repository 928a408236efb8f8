theorem gX2_append_0 {d : Nat} {Q : Value → zm_S → Prop} {w : zm_S} {a1 : Int32} (kt : (60 : Int32) ≤ (w.1 11 3) → zm_T zc_H d mX2_append Q 33 [] [] w) (kf : ¬ (60 : Int32) ≤ (w.1 11 3) → zm_T zc_H d mX2_append Q 9 [(0, .ref 11), (1, .int a1)] [] w) : zm_T zc_H d mX2_append Q 0 [(0, .ref 11), (1, .int a1)] [] w := by
  refine zm_aload_n (x := 11) 0 dX2_append_0 rfl rfl ?_
  refine zm_getf (v := .int (w.1 11 3)) (j := 3) dX2_append_1 clX2 flX2_25 (Nat.le_of_ble_eq_true rfl) zc_H11 rfl rfl ?_
  refine zm_bipush dX2_append_4 (v := (60 : Int32)) (by decide) ?_
  refine zm_icmp_ge 33 dX2_append_6 (by decide) (fun h => ?_) (fun h => ?_)
  · refine zm_sub [] rfl ?_
    exact kt h
  · exact kf h
theorem gX2_append_9 {d : Nat} {Q : Value → zm_S → Prop} {w : zm_S} {a1 : Int32} {Q' : Value → zm_S → Prop} (hi18 : vp_in (w.1 11 3) 60) (hC : zm_C zc_H d mX2_readParts [.ref 11] (zm_pi (zm_pi w 12 ((w.1 11 3)).toNatClampNeg a1) 11 3 ((w.1 11 3) + (1 : Int32))) Q') (k : ∀ (u : zm_S), Q' .null u → zm_T zc_H (d + 1) mX2_append Q 33 [] [] u) : zm_T zc_H (d + 1) mX2_append Q 9 [(0, .ref 11), (1, .int a1)] [] w := by
  refine zm_aload_n (x := 11) 0 dX2_append_9 rfl rfl ?_
  refine zm_getf (v := .ref 12) (j := 0) dX2_append_10 clX2 flX2_9 (Nat.le_of_ble_eq_true rfl) zc_H11 rfl rfl ?_
  refine zm_aload_n (x := 11) 0 dX2_append_13 rfl rfl ?_
  refine zm_getf (v := .int (w.1 11 3)) (j := 3) dX2_append_14 clX2 flX2_25 (Nat.le_of_ble_eq_true rfl) zc_H11 rfl rfl ?_
  refine zm_iload_n (x := a1) 1 dX2_append_17 rfl rfl ?_
  refine zm_iast dX2_append_18 zc_H12 hi18 ?_
  refine zm_aload_n (x := 11) 0 dX2_append_19 rfl rfl ?_
  refine zm_dup dX2_append_20 rfl ?_
  refine zm_getf (v := .int (w.1 11 3)) (j := 3) dX2_append_21 clX2 flX2_25 (Nat.le_of_ble_eq_true rfl) zc_H11 rfl rfl ?_
  refine zm_iconst dX2_append_24 (v := (1 : Int32)) (by decide) ?_
  refine zm_iadd dX2_append_25 ?_
  refine zm_putf (j := 3) (ty := .int) dX2_append_26 clX2 flX2_25 (Nat.le_of_ble_eq_true rfl) zc_H11 rfl rfl (by decide +kernel) rfl rfl ?_
  refine zm_aload_n (x := 11) 0 dX2_append_29 rfl rfl ?_
  refine zm_callVv (as := []) (rest := []) dX2_append_30 rfl mtX2_readParts lkX2_28 zc_H11 (C := RX2) rfl rfl rfl (Nat.le_of_ble_eq_true rfl) hC rfl (fun u hq => ?_)
  refine zm_sub [] rfl ?_
  exact k u hq
theorem gX2_append_33 {d : Nat} {Q : Value → zm_S → Prop} {w : zm_S} (k : Q .null w) : zm_T zc_H d mX2_append Q 33 [] [] w := by
  exact zm_return dX2_append_33 rfl k
theorem gX2_clear_0 {d : Nat} {Q : Value → zm_S → Prop} {w : zm_S} {Q' : Value → zm_S → Prop} (hC : zm_C zc_H d mX2_readParts [.ref 11] (zm_pi w 11 3 (0 : Int32)) Q') (k : ∀ (u : zm_S), Q' .null u → zm_T zc_H (d + 1) mX2_clear Q 9 [] [] u) : zm_T zc_H (d + 1) mX2_clear Q 0 [(0, .ref 11)] [] w := by
  refine zm_aload_n (x := 11) 0 dX2_clear_0 rfl rfl ?_
  refine zm_iconst dX2_clear_1 (v := (0 : Int32)) (by decide) ?_
  refine zm_putf (j := 3) (ty := .int) dX2_clear_2 clX2 flX2_25 (Nat.le_of_ble_eq_true rfl) zc_H11 rfl rfl (by decide +kernel) rfl rfl ?_
  refine zm_aload_n (x := 11) 0 dX2_clear_5 rfl rfl ?_
  refine zm_callVv (as := []) (rest := []) dX2_clear_6 rfl mtX2_readParts lkX2_28 zc_H11 (C := RX2) rfl rfl rfl (Nat.le_of_ble_eq_true rfl) hC rfl (fun u hq => ?_)
  refine zm_sub [] rfl ?_
  exact k u hq
theorem gX2_clear_9 {d : Nat} {Q : Value → zm_S → Prop} {w : zm_S} (k : Q .null w) : zm_T zc_H d mX2_clear Q 9 [] [] w := by
  exact zm_return dX2_clear_9 rfl k
theorem gX2_readParts_0 {d : Nat} {Q : Value → zm_S → Prop} {w : zm_S} {Q' : Value → zm_S → Prop} (hC : zm_C zc_H d mX2_forgetParts [.ref 11] w Q') (k : ∀ (u : zm_S), Q' .null u → zm_T zc_H (d + 1) mX2_readParts Q 4 [(0, .ref 11)] [] u) : zm_T zc_H (d + 1) mX2_readParts Q 0 [(0, .ref 11)] [] w := by
  refine zm_aload_n (x := 11) 0 dX2_readParts_0 rfl rfl ?_
  refine zm_callVv (as := []) (rest := []) dX2_readParts_1 rfl mtX2_forgetParts lkX2_31 zc_H11 (C := RX2) rfl rfl rfl (Nat.le_of_ble_eq_true rfl) hC rfl (fun u hq => ?_)
  exact k u hq
theorem gX2_readParts_4 {d : Nat} {Q : Value → zm_S → Prop} {w : zm_S} (kt : ¬ (w.1 11 3) = 0 → zm_T zc_H d mX2_readParts Q 16 [(0, .ref 11)] [.ref 11] w) (kf : (w.1 11 3) = 0 → zm_T zc_H d mX2_readParts Q 12 [(0, .ref 11)] [.ref 11] w) : zm_T zc_H d mX2_readParts Q 4 [(0, .ref 11)] [] w := by
  refine zm_aload_n (x := 11) 0 dX2_readParts_4 rfl rfl ?_
  refine zm_aload_n (x := 11) 0 dX2_readParts_5 rfl rfl ?_
  refine zm_getf (v := .int (w.1 11 3)) (j := 3) dX2_readParts_6 clX2 flX2_25 (Nat.le_of_ble_eq_true rfl) zc_H11 rfl rfl ?_
  refine zm_if_ne 16 dX2_readParts_9 (by decide) (fun h => ?_) (fun h => ?_)
  · exact kt h
  · exact kf h
theorem gX2_readParts_12 {d : Nat} {Q : Value → zm_S → Prop} {w : zm_S} (k : zm_T zc_H d mX2_readParts Q 20 [(0, .ref 11)] [.int (-1 : Int32), .ref 11] w) : zm_T zc_H d mX2_readParts Q 12 [(0, .ref 11)] [.ref 11] w := by
  refine zm_iconst dX2_readParts_12 (v := (-1 : Int32)) (by decide) ?_
  refine zm_goto 20 dX2_readParts_13 (by decide) ?_
  exact k
theorem gX2_readParts_16 {d : Nat} {Q : Value → zm_S → Prop} {w : zm_S} {Q' : Value → zm_S → Prop} (hC : zm_C zc_H d mX2_firstFault [.ref 11] w Q') (k : ∀ (r : Int32) (u : zm_S), Q' (.int r) u → zm_T zc_H (d + 1) mX2_readParts Q 20 [(0, .ref 11)] [.int r, .ref 11] u) : zm_T zc_H (d + 1) mX2_readParts Q 16 [(0, .ref 11)] [.ref 11] w := by
  refine zm_aload_n (x := 11) 0 dX2_readParts_16 rfl rfl ?_
  refine zm_callVi (as := []) (rest := [.ref 11]) dX2_readParts_17 rfl mtX2_firstFault lkX2_34 zc_H11 (C := RX2) rfl rfl rfl (Nat.le_of_ble_eq_true rfl) hC rfl (fun r u hq => ?_)
  exact k r u hq
theorem gX2_readParts_20 {d : Nat} {Q : Value → zm_S → Prop} {w : zm_S} {s0 : Int32} (kt : s0 = (-1 : Int32) → zm_T zc_H d mX2_readParts Q 35 [] [] (zm_pi w 11 5 s0)) (kf : ¬ s0 = (-1 : Int32) → zm_T zc_H d mX2_readParts Q 31 [(0, .ref 11)] [] (zm_pi w 11 5 s0)) : zm_T zc_H d mX2_readParts Q 20 [(0, .ref 11)] [.int s0, .ref 11] w := by
  refine zm_putf (j := 5) (ty := .int) dX2_readParts_20 clX2 flX2_21 (Nat.le_of_ble_eq_true rfl) zc_H11 rfl rfl (by decide +kernel) rfl rfl ?_
  refine zm_aload_n (x := 11) 0 dX2_readParts_23 rfl rfl ?_
  refine zm_getf (v := .int s0) (j := 5) dX2_readParts_24 clX2 flX2_21 (Nat.le_of_ble_eq_true rfl) zc_H11 rfl rfl ?_
  refine zm_iconst dX2_readParts_27 (v := (-1 : Int32)) (by decide) ?_
  refine zm_icmp_eq 35 dX2_readParts_28 (by decide) (fun h => ?_) (fun h => ?_)
  · refine zm_sub [] rfl ?_
    exact kt h
  · exact kf h
theorem gX2_readParts_31 {d : Nat} {Q : Value → zm_S → Prop} {w : zm_S} {Q' : Value → zm_S → Prop} (hC : zm_C zc_H d mX2_forgetParts [.ref 11] w Q') (k : ∀ (u : zm_S), Q' .null u → zm_T zc_H (d + 1) mX2_readParts Q 35 [] [] u) : zm_T zc_H (d + 1) mX2_readParts Q 31 [(0, .ref 11)] [] w := by
  refine zm_aload_n (x := 11) 0 dX2_readParts_31 rfl rfl ?_
  refine zm_callVv (as := []) (rest := []) dX2_readParts_32 rfl mtX2_forgetParts lkX2_31 zc_H11 (C := RX2) rfl rfl rfl (Nat.le_of_ble_eq_true rfl) hC rfl (fun u hq => ?_)
  refine zm_sub [] rfl ?_
  exact k u hq
theorem gX2_readParts_35 {d : Nat} {Q : Value → zm_S → Prop} {w : zm_S} (k : Q .null w) : zm_T zc_H d mX2_readParts Q 35 [] [] w := by
  exact zm_return dX2_readParts_35 rfl k
theorem gX2_forgetParts_0 {d : Nat} {Q : Value → zm_S → Prop} {w : zm_S} {Q' : Value → zm_S → Prop} (hC : zm_C zc_H d mJ7_fill_53178 [.ref 13, .int (0 : Int32)] w Q') (k : ∀ (u : zm_S), Q' .null u → zm_T zc_H (d + 1) mX2_forgetParts Q 8 [(0, .ref 11)] [] u) : zm_T zc_H (d + 1) mX2_forgetParts Q 0 [(0, .ref 11)] [] w := by
  refine zm_aload_n (x := 11) 0 dX2_forgetParts_0 rfl rfl ?_
  refine zm_getf (v := .ref 13) (j := 1) dX2_forgetParts_1 clX2 flX2_15 (Nat.le_of_ble_eq_true rfl) zc_H11 rfl rfl ?_
  refine zm_iconst dX2_forgetParts_4 (v := (0 : Int32)) (by decide) ?_
  refine zm_callSv (as := [.ref 13, .int (0 : Int32)]) (rest := []) dX2_forgetParts_5 rfl mtJ7_fill_53178 lkX2_38 rfl (Nat.le_of_ble_eq_true rfl) hC rfl (fun u hq => ?_)
  exact k u hq
theorem gX2_forgetParts_8 {d : Nat} {Q : Value → zm_S → Prop} {w : zm_S} {Q' : Value → zm_S → Prop} (hC : zm_C zc_H d mJ7_fill_53178 [.ref 14, .int (0 : Int32)] w Q') (k : ∀ (u : zm_S), Q' .null u → zm_T zc_H (d + 1) mX2_forgetParts Q 16 [(0, .ref 11)] [] u) : zm_T zc_H (d + 1) mX2_forgetParts Q 8 [(0, .ref 11)] [] w := by
  refine zm_aload_n (x := 11) 0 dX2_forgetParts_8 rfl rfl ?_
  refine zm_getf (v := .ref 14) (j := 2) dX2_forgetParts_9 clX2 flX2_18 (Nat.le_of_ble_eq_true rfl) zc_H11 rfl rfl ?_
  refine zm_iconst dX2_forgetParts_12 (v := (0 : Int32)) (by decide) ?_
  refine zm_callSv (as := [.ref 14, .int (0 : Int32)]) (rest := []) dX2_forgetParts_13 rfl mtJ7_fill_53178 lkX2_38 rfl (Nat.le_of_ble_eq_true rfl) hC rfl (fun u hq => ?_)
  exact k u hq
theorem gX2_forgetParts_16 {d : Nat} {Q : Value → zm_S → Prop} {w : zm_S} (k : Q .null (zm_pi w 11 4 (0 : Int32))) : zm_T zc_H d mX2_forgetParts Q 16 [(0, .ref 11)] [] w := by
  refine zm_aload_n (x := 11) 0 dX2_forgetParts_16 rfl rfl ?_
  refine zm_iconst dX2_forgetParts_17 (v := (0 : Int32)) (by decide) ?_
  refine zm_putf (j := 4) (ty := .int) dX2_forgetParts_18 clX2 flX2_44 (Nat.le_of_ble_eq_true rfl) zc_H11 rfl rfl (by decide +kernel) rfl rfl ?_
  exact zm_return dX2_forgetParts_21 rfl k
theorem gX2_firstFault_0 {d : Nat} {Q : Value → zm_S → Prop} {w : zm_S} (k : zm_T zc_H d mX2_firstFault Q 2 [(0, .ref 11), (1, .int (0 : Int32))] [] w) : zm_T zc_H d mX2_firstFault Q 0 [(0, .ref 11)] [] w := by
  refine zm_iconst dX2_firstFault_0 (v := (0 : Int32)) (by decide) ?_
  refine zm_istore_n dX2_firstFault_1 rfl (Nat.le_of_ble_eq_true rfl) (ls' := [(1, .int (0 : Int32)), (0, .ref 11)]) rfl ?_
  refine zm_sub [1, 0] rfl ?_
  exact k
theorem gX2_firstFault_2 {d : Nat} {Q : Value → zm_S → Prop} {w : zm_S} {a1 : Int32} (kt : (w.1 11 3) < a1 → zm_T zc_H d mX2_firstFault Q 72 [(0, .ref 11)] [] w) (kf : ¬ (w.1 11 3) < a1 → zm_T zc_H d mX2_firstFault Q 10 [(0, .ref 11), (1, .int a1)] [] w) : zm_T zc_H d mX2_firstFault Q 2 [(0, .ref 11), (1, .int a1)] [] w := by
  refine zm_iload_n (x := a1) 1 dX2_firstFault_2 rfl rfl ?_
  refine zm_aload_n (x := 11) 0 dX2_firstFault_3 rfl rfl ?_
  refine zm_getf (v := .int (w.1 11 3)) (j := 3) dX2_firstFault_4 clX2 flX2_25 (Nat.le_of_ble_eq_true rfl) zc_H11 rfl rfl ?_
  refine zm_icmp_gt 72 dX2_firstFault_7 (by decide) (fun h => ?_) (fun h => ?_)
  · refine zm_sub [0] rfl ?_
    exact kt h
  · exact kf h
theorem gX2_firstFault_10 {d : Nat} {Q : Value → zm_S → Prop} {w : zm_S} {a1 : Int32} {Q' : Value → zm_S → Prop} (hC : zm_C zc_H d mX2_faultOfPart [.ref 11, .int a1] w Q') (k : ∀ (r : Int32) (u : zm_S), Q' (.int r) u → zm_T zc_H (d + 1) mX2_firstFault Q 15 [(0, .ref 11), (1, .int a1)] [.int r] u) : zm_T zc_H (d + 1) mX2_firstFault Q 10 [(0, .ref 11), (1, .int a1)] [] w := by
  refine zm_aload_n (x := 11) 0 dX2_firstFault_10 rfl rfl ?_
  refine zm_iload_n (x := a1) 1 dX2_firstFault_11 rfl rfl ?_
  refine zm_callVi (as := [.int a1]) (rest := []) dX2_firstFault_12 rfl mtX2_faultOfPart lkX2_47 zc_H11 (C := RX2) rfl rfl rfl (Nat.le_of_ble_eq_true rfl) hC rfl (fun r u hq => ?_)
  exact k r u hq
theorem gX2_firstFault_15 {d : Nat} {Q : Value → zm_S → Prop} {w : zm_S} {a1 : Int32} {s0 : Int32} (kt : s0 = (-1 : Int32) → zm_T zc_H d mX2_firstFault Q 23 [(0, .ref 11), (1, .int a1)] [] w) (kf : ¬ s0 = (-1 : Int32) → zm_T zc_H d mX2_firstFault Q 21 [(2, .int s0)] [] w) : zm_T zc_H d mX2_firstFault Q 15 [(0, .ref 11), (1, .int a1)] [.int s0] w := by
  refine zm_istore_n dX2_firstFault_15 rfl (Nat.le_of_ble_eq_true rfl) (ls' := [(2, .int s0), (0, .ref 11), (1, .int a1)]) rfl ?_
  refine zm_iload_n (x := s0) 0 dX2_firstFault_16 rfl rfl ?_
  refine zm_iconst dX2_firstFault_17 (v := (-1 : Int32)) (by decide) ?_
  refine zm_icmp_eq 23 dX2_firstFault_18 (by decide) (fun h => ?_) (fun h => ?_)
  · refine zm_sub [1, 2] rfl ?_
    exact kt h
  · refine zm_sub [0] rfl ?_
    exact kf h
theorem gX2_firstFault_21 {d : Nat} {Q : Value → zm_S → Prop} {w : zm_S} {a2 : Int32} (k : Q (.int a2) w) : zm_T zc_H d mX2_firstFault Q 21 [(2, .int a2)] [] w := by
  refine zm_iload_n (x := a2) 0 dX2_firstFault_21 rfl rfl ?_
  exact zm_ireturn dX2_firstFault_22 rfl k
theorem gX2_firstFault_23 {d : Nat} {Q : Value → zm_S → Prop} {w : zm_S} {a1 : Int32} {Q' : Value → zm_S → Prop} (hC : zm_C zc_H d mX2_letterAt [.ref 11, .int a1] w Q') (k : ∀ (r : Int32) (u : zm_S), Q' (.int r) u → zm_T zc_H (d + 1) mX2_firstFault Q 29 [(0, .ref 11), (1, .int a1)] [.int r, .ref 11] u) : zm_T zc_H (d + 1) mX2_firstFault Q 23 [(0, .ref 11), (1, .int a1)] [] w := by
  refine zm_aload_n (x := 11) 0 dX2_firstFault_23 rfl rfl ?_
  refine zm_aload_n (x := 11) 0 dX2_firstFault_24 rfl rfl ?_
  refine zm_iload_n (x := a1) 1 dX2_firstFault_25 rfl rfl ?_
  refine zm_callVi (as := [.int a1]) (rest := [.ref 11]) dX2_firstFault_26 rfl mtX2_letterAt lkX2_51 zc_H11 (C := RX2) rfl rfl rfl (Nat.le_of_ble_eq_true rfl) hC rfl (fun r u hq => ?_)
  exact k r u hq
theorem gX2_firstFault_29 {d : Nat} {Q : Value → zm_S → Prop} {w : zm_S} {a1 : Int32} {s0 : Int32} {Q' : Value → zm_S → Prop} (hC : zm_C zc_H d mX2_letterAt [.ref 11, .int (a1 + (2 : Int32))] w Q') (k : ∀ (r : Int32) (u : zm_S), Q' (.int r) u → zm_T zc_H (d + 1) mX2_firstFault Q 36 [(0, .ref 11), (1, .int a1)] [.int r, .int s0, .ref 11] u) : zm_T zc_H (d + 1) mX2_firstFault Q 29 [(0, .ref 11), (1, .int a1)] [.int s0, .ref 11] w := by
  refine zm_aload_n (x := 11) 0 dX2_firstFault_29 rfl rfl ?_
  refine zm_iload_n (x := a1) 1 dX2_firstFault_30 rfl rfl ?_
  refine zm_iconst dX2_firstFault_31 (v := (2 : Int32)) (by decide) ?_
  refine zm_iadd dX2_firstFault_32 ?_
  refine zm_callVi (as := [.int (a1 + (2 : Int32))]) (rest := [.int s0, .ref 11]) dX2_firstFault_33 rfl mtX2_letterAt lkX2_51 zc_H11 (C := RX2) rfl rfl rfl (Nat.le_of_ble_eq_true rfl) hC rfl (fun r u hq => ?_)
  exact k r u hq
theorem gX2_firstFault_36 {d : Nat} {Q : Value → zm_S → Prop} {w : zm_S} {a1 : Int32} {s0 : Int32} {s1 : Int32} {Q' : Value → zm_S → Prop} (hC : zm_C zc_H d mX2_tellPart [.ref 11, .int s1, .int s0] w Q') (k : ∀ (u : zm_S), Q' .null u → zm_T zc_H (d + 1) mX2_firstFault Q 39 [(0, .ref 11), (1, .int a1)] [] u) : zm_T zc_H (d + 1) mX2_firstFault Q 36 [(0, .ref 11), (1, .int a1)] [.int s0, .int s1, .ref 11] w := by
  refine zm_callVv (as := [.int s1, .int s0]) (rest := []) dX2_firstFault_36 rfl mtX2_tellPart lkX2_54 zc_H11 (C := RX2) rfl rfl rfl (Nat.le_of_ble_eq_true rfl) hC rfl (fun u hq => ?_)
  exact k u hq
theorem gX2_firstFault_39 {d : Nat} {Q : Value → zm_S → Prop} {w : zm_S} {a1 : Int32} (kt : (a1 + (3 : Int32)) < (w.1 11 3) → zm_T zc_H d mX2_firstFault Q 53 [(0, .ref 11), (1, .int a1), (3, .int (a1 + (3 : Int32)))] [] w) (kf : ¬ (a1 + (3 : Int32)) < (w.1 11 3) → zm_T zc_H d mX2_firstFault Q 51 [] [] w) : zm_T zc_H d mX2_firstFault Q 39 [(0, .ref 11), (1, .int a1)] [] w := by
  refine zm_iload_n (x := a1) 1 dX2_firstFault_39 rfl rfl ?_
  refine zm_iconst dX2_firstFault_40 (v := (3 : Int32)) (by decide) ?_
  refine zm_iadd dX2_firstFault_41 ?_
  refine zm_istore_n dX2_firstFault_42 rfl (Nat.le_of_ble_eq_true rfl) (ls' := [(3, .int (a1 + (3 : Int32))), (0, .ref 11), (1, .int a1)]) rfl ?_
  refine zm_iload_n (x := (a1 + (3 : Int32))) 0 dX2_firstFault_43 rfl rfl ?_
  refine zm_aload_n (x := 11) 1 dX2_firstFault_44 rfl rfl ?_
  refine zm_getf (v := .int (w.1 11 3)) (j := 3) dX2_firstFault_45 clX2 flX2_25 (Nat.le_of_ble_eq_true rfl) zc_H11 rfl rfl ?_
  refine zm_icmp_lt 53 dX2_firstFault_48 (by decide) (fun h => ?_) (fun h => ?_)
  · refine zm_sub [1, 2, 0] rfl ?_
    exact kt h
  · refine zm_sub [] rfl ?_
    exact kf h
theorem gX2_firstFault_51 {d : Nat} {Q : Value → zm_S → Prop} {w : zm_S} (k : Q (.int (-1 : Int32)) w) : zm_T zc_H d mX2_firstFault Q 51 [] [] w := by
  refine zm_iconst dX2_firstFault_51 (v := (-1 : Int32)) (by decide) ?_
  exact zm_ireturn dX2_firstFault_52 rfl k
theorem gX2_firstFault_53 {d : Nat} {Q : Value → zm_S → Prop} {w : zm_S} {a1 : Int32} {a3 : Int32} (hi58 : vp_in a3 60) (kt : (w.1 12 (a3).toNatClampNeg) = (59 : Int32) → zm_T zc_H d mX2_firstFault Q 66 [(0, .ref 11), (1, .int a1)] [] w) (kf : ¬ (w.1 12 (a3).toNatClampNeg) = (59 : Int32) → zm_T zc_H d mX2_firstFault Q 64 [(3, .int a3)] [] w) : zm_T zc_H d mX2_firstFault Q 53 [(0, .ref 11), (1, .int a1), (3, .int a3)] [] w := by
  refine zm_aload_n (x := 11) 0 dX2_firstFault_53 rfl rfl ?_
  refine zm_getf (v := .ref 12) (j := 0) dX2_firstFault_54 clX2 flX2_9 (Nat.le_of_ble_eq_true rfl) zc_H11 rfl rfl ?_
  refine zm_iload_n (x := a3) 2 dX2_firstFault_57 rfl rfl ?_
  refine zm_iald dX2_firstFault_58 zc_H12 hi58 ?_
  refine zm_bipush dX2_firstFault_59 (v := (59 : Int32)) (by decide) ?_
  refine zm_icmp_eq 66 dX2_firstFault_61 (by decide) (fun h => ?_) (fun h => ?_)
  · refine zm_sub [0, 1] rfl ?_
    exact kt h
  · refine zm_sub [2] rfl ?_
    exact kf h
theorem gX2_firstFault_64 {d : Nat} {Q : Value → zm_S → Prop} {w : zm_S} {a3 : Int32} (k : Q (.int a3) w) : zm_T zc_H d mX2_firstFault Q 64 [(3, .int a3)] [] w := by
  refine zm_iload_n (x := a3) 0 dX2_firstFault_64 rfl rfl ?_
  exact zm_ireturn dX2_firstFault_65 rfl k
theorem gX2_firstFault_66 {d : Nat} {Q : Value → zm_S → Prop} {w : zm_S} {a1 : Int32} (k : zm_T zc_H d mX2_firstFault Q 2 [(0, .ref 11), (1, .int (a1 + (4 : Int32)))] [] w) : zm_T zc_H d mX2_firstFault Q 66 [(0, .ref 11), (1, .int a1)] [] w := by
  refine zm_iinc 1 dX2_firstFault_66 (x := a1) (v := (a1 + (4 : Int32))) rfl rfl (Nat.le_of_ble_eq_true rfl) (ls' := [(1, .int (a1 + (4 : Int32))), (0, .ref 11)]) rfl ?_
  refine zm_goto 2 dX2_firstFault_69 (by decide) ?_
  refine zm_sub [1, 0] rfl ?_
  exact k
theorem gX2_firstFault_72 {d : Nat} {Q : Value → zm_S → Prop} {w : zm_S} (k : Q (.int (w.1 11 3)) w) : zm_T zc_H d mX2_firstFault Q 72 [(0, .ref 11)] [] w := by
  refine zm_aload_n (x := 11) 0 dX2_firstFault_72 rfl rfl ?_
  refine zm_getf (v := .int (w.1 11 3)) (j := 3) dX2_firstFault_73 clX2 flX2_25 (Nat.le_of_ble_eq_true rfl) zc_H11 rfl rfl ?_
  exact zm_ireturn dX2_firstFault_76 rfl k
theorem gX2_faultOfPart_0 {d : Nat} {Q : Value → zm_S → Prop} {w : zm_S} {a1 : Int32} {Q' : Value → zm_S → Prop} (hC : zm_C zc_H d mX2_letterAt [.ref 11, .int a1] w Q') (k : ∀ (r : Int32) (u : zm_S), Q' (.int r) u → zm_T zc_H (d + 1) mX2_faultOfPart Q 5 [(0, .ref 11), (1, .int a1)] [.int r] u) : zm_T zc_H (d + 1) mX2_faultOfPart Q 0 [(0, .ref 11), (1, .int a1)] [] w := by
  refine zm_aload_n (x := 11) 0 dX2_faultOfPart_0 rfl rfl ?_
  refine zm_iload_n (x := a1) 1 dX2_faultOfPart_1 rfl rfl ?_
  refine zm_callVi (as := [.int a1]) (rest := []) dX2_faultOfPart_2 rfl mtX2_letterAt lkX2_51 zc_H11 (C := RX2) rfl rfl rfl (Nat.le_of_ble_eq_true rfl) hC rfl (fun r u hq => ?_)
  exact k r u hq
theorem gX2_faultOfPart_5 {d : Nat} {Q : Value → zm_S → Prop} {w : zm_S} {a1 : Int32} {s0 : Int32} (kt : ¬ s0 = (-1 : Int32) → zm_T zc_H d mX2_faultOfPart Q 11 [(0, .ref 11), (1, .int a1)] [] w) (kf : s0 = (-1 : Int32) → zm_T zc_H d mX2_faultOfPart Q 9 [(1, .int a1)] [] w) : zm_T zc_H d mX2_faultOfPart Q 5 [(0, .ref 11), (1, .int a1)] [.int s0] w := by
  refine zm_iconst dX2_faultOfPart_5 (v := (-1 : Int32)) (by decide) ?_
  refine zm_icmp_ne 11 dX2_faultOfPart_6 (by decide) (fun h => ?_) (fun h => ?_)
  · exact kt h
  · refine zm_sub [1] rfl ?_
    exact kf h
theorem gX2_faultOfPart_9 {d : Nat} {Q : Value → zm_S → Prop} {w : zm_S} {a1 : Int32} (k : Q (.int a1) w) : zm_T zc_H d mX2_faultOfPart Q 9 [(1, .int a1)] [] w := by
  refine zm_iload_n (x := a1) 0 dX2_faultOfPart_9 rfl rfl ?_
  exact zm_ireturn dX2_faultOfPart_10 rfl k
theorem gX2_faultOfPart_11 {d : Nat} {Q : Value → zm_S → Prop} {w : zm_S} {a1 : Int32} (kt : (w.1 11 3) ≤ (a1 + (1 : Int32)) → zm_T zc_H d mX2_faultOfPart Q 34 [(1, .int a1)] [] w) (kf : ¬ (w.1 11 3) ≤ (a1 + (1 : Int32)) → zm_T zc_H d mX2_faultOfPart Q 21 [(0, .ref 11), (1, .int a1)] [] w) : zm_T zc_H d mX2_faultOfPart Q 11 [(0, .ref 11), (1, .int a1)] [] w := by
  refine zm_iload_n (x := a1) 1 dX2_faultOfPart_11 rfl rfl ?_
  refine zm_iconst dX2_faultOfPart_12 (v := (1 : Int32)) (by decide) ?_
  refine zm_iadd dX2_faultOfPart_13 ?_
  refine zm_aload_n (x := 11) 0 dX2_faultOfPart_14 rfl rfl ?_
  refine zm_getf (v := .int (w.1 11 3)) (j := 3) dX2_faultOfPart_15 clX2 flX2_25 (Nat.le_of_ble_eq_true rfl) zc_H11 rfl rfl ?_
  refine zm_icmp_ge 34 dX2_faultOfPart_18 (by decide) (fun h => ?_) (fun h => ?_)
  · refine zm_sub [1] rfl ?_
    exact kt h
  · exact kf h
theorem gX2_faultOfPart_21 {d : Nat} {Q : Value → zm_S → Prop} {w : zm_S} {a1 : Int32} (hi28 : vp_in (a1 + (1 : Int32)) 60) (kt : (w.1 12 ((a1 + (1 : Int32))).toNatClampNeg) = (60 : Int32) → zm_T zc_H d mX2_faultOfPart Q 38 [(0, .ref 11), (1, .int a1)] [] w) (kf : ¬ (w.1 12 ((a1 + (1 : Int32))).toNatClampNeg) = (60 : Int32) → zm_T zc_H d mX2_faultOfPart Q 34 [(1, .int a1)] [] w) : zm_T zc_H d mX2_faultOfPart Q 21 [(0, .ref 11), (1, .int a1)] [] w := by
  refine zm_aload_n (x := 11) 0 dX2_faultOfPart_21 rfl rfl ?_
  refine zm_getf (v := .ref 12) (j := 0) dX2_faultOfPart_22 clX2 flX2_9 (Nat.le_of_ble_eq_true rfl) zc_H11 rfl rfl ?_
  refine zm_iload_n (x := a1) 1 dX2_faultOfPart_25 rfl rfl ?_
  refine zm_iconst dX2_faultOfPart_26 (v := (1 : Int32)) (by decide) ?_
  refine zm_iadd dX2_faultOfPart_27 ?_
  refine zm_iald dX2_faultOfPart_28 zc_H12 hi28 ?_
  refine zm_bipush dX2_faultOfPart_29 (v := (60 : Int32)) (by decide) ?_
  refine zm_icmp_eq 38 dX2_faultOfPart_31 (by decide) (fun h => ?_) (fun h => ?_)
  · exact kt h
  · refine zm_sub [1] rfl ?_
    exact kf h
theorem gX2_faultOfPart_34 {d : Nat} {Q : Value → zm_S → Prop} {w : zm_S} {a1 : Int32} (k : Q (.int (a1 + (1 : Int32))) w) : zm_T zc_H d mX2_faultOfPart Q 34 [(1, .int a1)] [] w := by
  refine zm_iload_n (x := a1) 0 dX2_faultOfPart_34 rfl rfl ?_
  refine zm_iconst dX2_faultOfPart_35 (v := (1 : Int32)) (by decide) ?_
  refine zm_iadd dX2_faultOfPart_36 ?_
  exact zm_ireturn dX2_faultOfPart_37 rfl k
theorem gX2_faultOfPart_38 {d : Nat} {Q : Value → zm_S → Prop} {w : zm_S} {a1 : Int32} {Q' : Value → zm_S → Prop} (hC : zm_C zc_H d mX2_letterAt [.ref 11, .int (a1 + (2 : Int32))] w Q') (k : ∀ (r : Int32) (u : zm_S), Q' (.int r) u → zm_T zc_H (d + 1) mX2_faultOfPart Q 45 [(0, .ref 11), (1, .int a1)] [.int r] u) : zm_T zc_H (d + 1) mX2_faultOfPart Q 38 [(0, .ref 11), (1, .int a1)] [] w := by
  refine zm_aload_n (x := 11) 0 dX2_faultOfPart_38 rfl rfl ?_
  refine zm_iload_n (x := a1) 1 dX2_faultOfPart_39 rfl rfl ?_
  refine zm_iconst dX2_faultOfPart_40 (v := (2 : Int32)) (by decide) ?_
  refine zm_iadd dX2_faultOfPart_41 ?_
  refine zm_callVi (as := [.int (a1 + (2 : Int32))]) (rest := []) dX2_faultOfPart_42 rfl mtX2_letterAt lkX2_51 zc_H11 (C := RX2) rfl rfl rfl (Nat.le_of_ble_eq_true rfl) hC rfl (fun r u hq => ?_)
  exact k r u hq
theorem gX2_faultOfPart_45 {d : Nat} {Q : Value → zm_S → Prop} {w : zm_S} {a1 : Int32} {s0 : Int32} (kt : s0 = (-1 : Int32) → zm_T zc_H d mX2_faultOfPart Q 68 [(1, .int a1)] [] w) (kf : ¬ s0 = (-1 : Int32) → zm_T zc_H d mX2_faultOfPart Q 49 [(0, .ref 11), (1, .int a1)] [] w) : zm_T zc_H d mX2_faultOfPart Q 45 [(0, .ref 11), (1, .int a1)] [.int s0] w := by
  refine zm_iconst dX2_faultOfPart_45 (v := (-1 : Int32)) (by decide) ?_
  refine zm_icmp_eq 68 dX2_faultOfPart_46 (by decide) (fun h => ?_) (fun h => ?_)
  · refine zm_sub [1] rfl ?_
    exact kt h
  · exact kf h
theorem gX2_faultOfPart_49 {d : Nat} {Q : Value → zm_S → Prop} {w : zm_S} {a1 : Int32} {Q' : Value → zm_S → Prop} (hC : zm_C zc_H d mX2_letterAt [.ref 11, .int a1] w Q') (k : ∀ (r : Int32) (u : zm_S), Q' (.int r) u → zm_T zc_H (d + 1) mX2_faultOfPart Q 55 [(0, .ref 11), (1, .int a1)] [.int r, .ref 11] u) : zm_T zc_H (d + 1) mX2_faultOfPart Q 49 [(0, .ref 11), (1, .int a1)] [] w := by
  refine zm_aload_n (x := 11) 0 dX2_faultOfPart_49 rfl rfl ?_
  refine zm_aload_n (x := 11) 0 dX2_faultOfPart_50 rfl rfl ?_
  refine zm_iload_n (x := a1) 1 dX2_faultOfPart_51 rfl rfl ?_
  refine zm_callVi (as := [.int a1]) (rest := [.ref 11]) dX2_faultOfPart_52 rfl mtX2_letterAt lkX2_51 zc_H11 (C := RX2) rfl rfl rfl (Nat.le_of_ble_eq_true rfl) hC rfl (fun r u hq => ?_)
  exact k r u hq
theorem gX2_faultOfPart_55 {d : Nat} {Q : Value → zm_S → Prop} {w : zm_S} {a1 : Int32} {s0 : Int32} {Q' : Value → zm_S → Prop} (hC : zm_C zc_H d mX2_letterAt [.ref 11, .int (a1 + (2 : Int32))] w Q') (k : ∀ (r : Int32) (u : zm_S), Q' (.int r) u → zm_T zc_H (d + 1) mX2_faultOfPart Q 62 [(1, .int a1)] [.int r, .int s0, .ref 11] u) : zm_T zc_H (d + 1) mX2_faultOfPart Q 55 [(0, .ref 11), (1, .int a1)] [.int s0, .ref 11] w := by
  refine zm_aload_n (x := 11) 0 dX2_faultOfPart_55 rfl rfl ?_
  refine zm_iload_n (x := a1) 1 dX2_faultOfPart_56 rfl rfl ?_
  refine zm_iconst dX2_faultOfPart_57 (v := (2 : Int32)) (by decide) ?_
  refine zm_iadd dX2_faultOfPart_58 ?_
  refine zm_callVi (as := [.int (a1 + (2 : Int32))]) (rest := [.int s0, .ref 11]) dX2_faultOfPart_59 rfl mtX2_letterAt lkX2_51 zc_H11 (C := RX2) rfl rfl rfl (Nat.le_of_ble_eq_true rfl) hC rfl (fun r u hq => ?_)
  refine zm_sub [1] rfl ?_
  exact k r u hq
theorem gX2_faultOfPart_62 {d : Nat} {Q : Value → zm_S → Prop} {w : zm_S} {a1 : Int32} {s0 : Int32} {s1 : Int32} {Q' : Value → zm_S → Prop} (hC : zm_C zc_H d mX2_closesCircle [.ref 11, .int s1, .int s0] w Q') (k : ∀ (r : Int32) (u : zm_S), Q' (.int r) u → zm_T zc_H (d + 1) mX2_faultOfPart Q 65 [(1, .int a1)] [.int r] u) : zm_T zc_H (d + 1) mX2_faultOfPart Q 62 [(1, .int a1)] [.int s0, .int s1, .ref 11] w := by
  refine zm_callVz (as := [.int s1, .int s0]) (rest := []) dX2_faultOfPart_62 rfl mtX2_closesCircle lkX2_58 zc_H11 (C := RX2) rfl rfl rfl (Nat.le_of_ble_eq_true rfl) hC rfl (fun r u hq => ?_)
  exact k r u hq
theorem gX2_faultOfPart_65 {d : Nat} {Q : Value → zm_S → Prop} {w : zm_S} {a1 : Int32} {s0 : Int32} (kt : s0 = 0 → zm_T zc_H d mX2_faultOfPart Q 72 [] [] w) (kf : ¬ s0 = 0 → zm_T zc_H d mX2_faultOfPart Q 68 [(1, .int a1)] [] w) : zm_T zc_H d mX2_faultOfPart Q 65 [(1, .int a1)] [.int s0] w := by
  refine zm_if_eq 72 dX2_faultOfPart_65 (by decide) (fun h => ?_) (fun h => ?_)
  · refine zm_sub [] rfl ?_
    exact kt h
  · exact kf h
theorem gX2_faultOfPart_68 {d : Nat} {Q : Value → zm_S → Prop} {w : zm_S} {a1 : Int32} (k : Q (.int (a1 + (2 : Int32))) w) : zm_T zc_H d mX2_faultOfPart Q 68 [(1, .int a1)] [] w := by
  refine zm_iload_n (x := a1) 0 dX2_faultOfPart_68 rfl rfl ?_
  refine zm_iconst dX2_faultOfPart_69 (v := (2 : Int32)) (by decide) ?_
  refine zm_iadd dX2_faultOfPart_70 ?_
  exact zm_ireturn dX2_faultOfPart_71 rfl k
theorem gX2_faultOfPart_72 {d : Nat} {Q : Value → zm_S → Prop} {w : zm_S} (k : Q (.int (-1 : Int32)) w) : zm_T zc_H d mX2_faultOfPart Q 72 [] [] w := by
  refine zm_iconst dX2_faultOfPart_72 (v := (-1 : Int32)) (by decide) ?_
  exact zm_ireturn dX2_faultOfPart_73 rfl k
theorem gX2_letterAt_0 {d : Nat} {Q : Value → zm_S → Prop} {w : zm_S} {a1 : Int32} (kt : (w.1 11 3) ≤ a1 → zm_T zc_H d mX2_letterAt Q 30 [] [] w) (kf : ¬ (w.1 11 3) ≤ a1 → zm_T zc_H d mX2_letterAt Q 8 [(0, .ref 11), (1, .int a1)] [] w) : zm_T zc_H d mX2_letterAt Q 0 [(0, .ref 11), (1, .int a1)] [] w := by
  refine zm_iload_n (x := a1) 1 dX2_letterAt_0 rfl rfl ?_
  refine zm_aload_n (x := 11) 0 dX2_letterAt_1 rfl rfl ?_
  refine zm_getf (v := .int (w.1 11 3)) (j := 3) dX2_letterAt_2 clX2 flX2_25 (Nat.le_of_ble_eq_true rfl) zc_H11 rfl rfl ?_
  refine zm_icmp_ge 30 dX2_letterAt_5 (by decide) (fun h => ?_) (fun h => ?_)
  · refine zm_sub [] rfl ?_
    exact kt h
  · exact kf h
theorem gX2_letterAt_8 {d : Nat} {Q : Value → zm_S → Prop} {w : zm_S} {a1 : Int32} (hi13 : vp_in a1 60) (kt : (w.1 12 (a1).toNatClampNeg) < (97 : Int32) → zm_T zc_H d mX2_letterAt Q 30 [] [] w) (kf : ¬ (w.1 12 (a1).toNatClampNeg) < (97 : Int32) → zm_T zc_H d mX2_letterAt Q 19 [(0, .ref 11), (1, .int a1)] [] w) : zm_T zc_H d mX2_letterAt Q 8 [(0, .ref 11), (1, .int a1)] [] w := by
  refine zm_aload_n (x := 11) 0 dX2_letterAt_8 rfl rfl ?_
  refine zm_getf (v := .ref 12) (j := 0) dX2_letterAt_9 clX2 flX2_9 (Nat.le_of_ble_eq_true rfl) zc_H11 rfl rfl ?_
  refine zm_iload_n (x := a1) 1 dX2_letterAt_12 rfl rfl ?_
  refine zm_iald dX2_letterAt_13 zc_H12 hi13 ?_
  refine zm_bipush dX2_letterAt_14 (v := (97 : Int32)) (by decide) ?_
  refine zm_icmp_lt 30 dX2_letterAt_16 (by decide) (fun h => ?_) (fun h => ?_)
  · refine zm_sub [] rfl ?_
    exact kt h
  · exact kf h
theorem gX2_letterAt_19 {d : Nat} {Q : Value → zm_S → Prop} {w : zm_S} {a1 : Int32} (hi24 : vp_in a1 60) (kt : (w.1 12 (a1).toNatClampNeg) ≤ (103 : Int32) → zm_T zc_H d mX2_letterAt Q 32 [(0, .ref 11), (1, .int a1)] [] w) (kf : ¬ (w.1 12 (a1).toNatClampNeg) ≤ (103 : Int32) → zm_T zc_H d mX2_letterAt Q 30 [] [] w) : zm_T zc_H d mX2_letterAt Q 19 [(0, .ref 11), (1, .int a1)] [] w := by
  refine zm_aload_n (x := 11) 0 dX2_letterAt_19 rfl rfl ?_
  refine zm_getf (v := .ref 12) (j := 0) dX2_letterAt_20 clX2 flX2_9 (Nat.le_of_ble_eq_true rfl) zc_H11 rfl rfl ?_
  refine zm_iload_n (x := a1) 1 dX2_letterAt_23 rfl rfl ?_
  refine zm_iald dX2_letterAt_24 zc_H12 hi24 ?_
  refine zm_bipush dX2_letterAt_25 (v := (103 : Int32)) (by decide) ?_
  refine zm_icmp_le 32 dX2_letterAt_27 (by decide) (fun h => ?_) (fun h => ?_)
  · exact kt h
  · refine zm_sub [] rfl ?_
    exact kf h
theorem gX2_letterAt_30 {d : Nat} {Q : Value → zm_S → Prop} {w : zm_S} (k : Q (.int (-1 : Int32)) w) : zm_T zc_H d mX2_letterAt Q 30 [] [] w := by
  refine zm_iconst dX2_letterAt_30 (v := (-1 : Int32)) (by decide) ?_
  exact zm_ireturn dX2_letterAt_31 rfl k
theorem gX2_letterAt_32 {d : Nat} {Q : Value → zm_S → Prop} {w : zm_S} {a1 : Int32} (hi37 : vp_in a1 60) (k : Q (.int ((w.1 12 (a1).toNatClampNeg) - (97 : Int32))) w) : zm_T zc_H d mX2_letterAt Q 32 [(0, .ref 11), (1, .int a1)] [] w := by
  refine zm_aload_n (x := 11) 0 dX2_letterAt_32 rfl rfl ?_
  refine zm_getf (v := .ref 12) (j := 0) dX2_letterAt_33 clX2 flX2_9 (Nat.le_of_ble_eq_true rfl) zc_H11 rfl rfl ?_
  refine zm_iload_n (x := a1) 1 dX2_letterAt_36 rfl rfl ?_
  refine zm_iald dX2_letterAt_37 zc_H12 hi37 ?_
  refine zm_bipush dX2_letterAt_38 (v := (97 : Int32)) (by decide) ?_
  refine zm_isub dX2_letterAt_40 ?_
  exact zm_ireturn dX2_letterAt_41 rfl k
theorem gX2_closesCircle_0 {d : Nat} {Q : Value → zm_S → Prop} {w : zm_S} {a1 : Int32} {a2 : Int32} (kt : a1 = a2 → zm_T zc_H d mX2_closesCircle Q 18 [] [] w) (kf : ¬ a1 = a2 → zm_T zc_H d mX2_closesCircle Q 5 [(0, .ref 11), (1, .int a1), (2, .int a2)] [] w) : zm_T zc_H d mX2_closesCircle Q 0 [(0, .ref 11), (1, .int a1), (2, .int a2)] [] w := by
  refine zm_iload_n (x := a1) 1 dX2_closesCircle_0 rfl rfl ?_
  refine zm_iload_n (x := a2) 2 dX2_closesCircle_1 rfl rfl ?_
  refine zm_icmp_eq 18 dX2_closesCircle_2 (by decide) (fun h => ?_) (fun h => ?_)
  · refine zm_sub [] rfl ?_
    exact kt h
  · exact kf h
theorem gX2_closesCircle_5 {d : Nat} {Q : Value → zm_S → Prop} {w : zm_S} {a1 : Int32} {a2 : Int32} (hi10 : vp_in a1 7) (kt : ((w.1 14 (a1).toNatClampNeg) &&& ((1 : Int32) <<< (a2 &&& 31))) = 0 → zm_T zc_H d mX2_closesCircle Q 22 [] [] w) (kf : ¬ ((w.1 14 (a1).toNatClampNeg) &&& ((1 : Int32) <<< (a2 &&& 31))) = 0 → zm_T zc_H d mX2_closesCircle Q 18 [] [] w) : zm_T zc_H d mX2_closesCircle Q 5 [(0, .ref 11), (1, .int a1), (2, .int a2)] [] w := by
  refine zm_aload_n (x := 11) 0 dX2_closesCircle_5 rfl rfl ?_
  refine zm_getf (v := .ref 14) (j := 2) dX2_closesCircle_6 clX2 flX2_18 (Nat.le_of_ble_eq_true rfl) zc_H11 rfl rfl ?_
  refine zm_iload_n (x := a1) 1 dX2_closesCircle_9 rfl rfl ?_
  refine zm_iald dX2_closesCircle_10 zc_H14 hi10 ?_
  refine zm_iconst dX2_closesCircle_11 (v := (1 : Int32)) (by decide) ?_
  refine zm_iload_n (x := a2) 2 dX2_closesCircle_12 rfl rfl ?_
  refine zm_ishl dX2_closesCircle_13 ?_
  refine zm_iand dX2_closesCircle_14 ?_
  refine zm_if_eq 22 dX2_closesCircle_15 (by decide) (fun h => ?_) (fun h => ?_)
  · refine zm_sub [] rfl ?_
    exact kt h
  · refine zm_sub [] rfl ?_
    exact kf h
theorem gX2_closesCircle_18 {d : Nat} {Q : Value → zm_S → Prop} {w : zm_S} (k : Q (.int (1 : Int32)) w) : zm_T zc_H d mX2_closesCircle Q 18 [] [] w := by
  refine zm_iconst dX2_closesCircle_18 (v := (1 : Int32)) (by decide) ?_
  refine zm_goto 23 dX2_closesCircle_19 (by decide) ?_
  exact zm_zreturn dX2_closesCircle_23 rfl (by decide) k
theorem gX2_closesCircle_22 {d : Nat} {Q : Value → zm_S → Prop} {w : zm_S} (k : Q (.int (0 : Int32)) w) : zm_T zc_H d mX2_closesCircle Q 22 [] [] w := by
  refine zm_iconst dX2_closesCircle_22 (v := (0 : Int32)) (by decide) ?_
  exact zm_zreturn dX2_closesCircle_23 rfl (by decide) k
theorem gX2_tellPart_0 {d : Nat} {Q : Value → zm_S → Prop} {w : zm_S} {a1 : Int32} {a2 : Int32} (kt : a1 < 0 → zm_T zc_H d mX2_tellPart Q 8 [] [] w) (kf : ¬ a1 < 0 → zm_T zc_H d mX2_tellPart Q 4 [(0, .ref 11), (1, .int a1), (2, .int a2)] [] w) : zm_T zc_H d mX2_tellPart Q 0 [(0, .ref 11), (1, .int a1), (2, .int a2)] [] w := by
  refine zm_iload_n (x := a1) 1 dX2_tellPart_0 rfl rfl ?_
  refine zm_if_lt 8 dX2_tellPart_1 (by decide) (fun h => ?_) (fun h => ?_)
  · refine zm_sub [] rfl ?_
    exact kt h
  · exact kf h
theorem gX2_tellPart_4 {d : Nat} {Q : Value → zm_S → Prop} {w : zm_S} {a1 : Int32} {a2 : Int32} (kt : 0 ≤ a2 → zm_T zc_H d mX2_tellPart Q 9 [(0, .ref 11), (1, .int a1), (2, .int a2)] [] w) (kf : ¬ 0 ≤ a2 → zm_T zc_H d mX2_tellPart Q 8 [] [] w) : zm_T zc_H d mX2_tellPart Q 4 [(0, .ref 11), (1, .int a1), (2, .int a2)] [] w := by
  refine zm_iload_n (x := a2) 2 dX2_tellPart_4 rfl rfl ?_
  refine zm_if_ge 9 dX2_tellPart_5 (by decide) (fun h => ?_) (fun h => ?_)
  · exact kt h
  · refine zm_sub [] rfl ?_
    exact kf h
theorem gX2_tellPart_8 {d : Nat} {Q : Value → zm_S → Prop} {w : zm_S} (k : Q .null w) : zm_T zc_H d mX2_tellPart Q 8 [] [] w := by
  exact zm_return dX2_tellPart_8 rfl k
theorem gX2_tellPart_9 {d : Nat} {Q : Value → zm_S → Prop} {w : zm_S} {a1 : Int32} {a2 : Int32} (hi15 : vp_in a2 7) (hi20 : vp_in a2 7) (hi26 : vp_in a1 7) (k : zm_T zc_H d mX2_tellPart Q 35 [(0, .ref 11), (2, .int a2), (3, .int ((w.1 14 (a1).toNatClampNeg) ||| ((1 : Int32) <<< (a1 &&& 31)))), (4, .int (0 : Int32))] [] (zm_pi w 13 (a2).toNatClampNeg ((w.1 13 (a2).toNatClampNeg) ||| ((1 : Int32) <<< (a1 &&& 31))))) : zm_T zc_H d mX2_tellPart Q 9 [(0, .ref 11), (1, .int a1), (2, .int a2)] [] w := by
  refine zm_aload_n (x := 11) 0 dX2_tellPart_9 rfl rfl ?_
  refine zm_getf (v := .ref 13) (j := 1) dX2_tellPart_10 clX2 flX2_15 (Nat.le_of_ble_eq_true rfl) zc_H11 rfl rfl ?_
  refine zm_iload_n (x := a2) 2 dX2_tellPart_13 rfl rfl ?_
  refine zm_dup2 dX2_tellPart_14 rfl rfl ?_
  refine zm_iald dX2_tellPart_15 zc_H13 hi15 ?_
  refine zm_iconst dX2_tellPart_16 (v := (1 : Int32)) (by decide) ?_
  refine zm_iload_n (x := a1) 1 dX2_tellPart_17 rfl rfl ?_
  refine zm_ishl dX2_tellPart_18 ?_
  refine zm_ior dX2_tellPart_19 ?_
  refine zm_iast dX2_tellPart_20 zc_H13 hi20 ?_
  refine zm_aload_n (x := 11) 0 dX2_tellPart_21 rfl rfl ?_
  refine zm_getf (v := .ref 14) (j := 2) dX2_tellPart_22 clX2 flX2_18 (Nat.le_of_ble_eq_true rfl) zc_H11 rfl rfl ?_
  refine zm_iload_n (x := a1) 1 dX2_tellPart_25 rfl rfl ?_
  refine zm_iald dX2_tellPart_26 zc_H14 hi26 ?_
  refine zm_iconst dX2_tellPart_27 (v := (1 : Int32)) (by decide) ?_
  refine zm_iload_n (x := a1) 1 dX2_tellPart_28 rfl rfl ?_
  refine zm_ishl dX2_tellPart_29 ?_
  refine zm_ior dX2_tellPart_30 ?_
  refine zm_istore_n dX2_tellPart_31 rfl (Nat.le_of_ble_eq_true rfl) (ls' := [(3, .int ((w.1 14 (a1).toNatClampNeg) ||| ((1 : Int32) <<< (a1 &&& 31)))), (0, .ref 11), (1, .int a1), (2, .int a2)]) rfl ?_
  refine zm_iconst dX2_tellPart_32 (v := (0 : Int32)) (by decide) ?_
  refine zm_istore dX2_tellPart_33 (Nat.le_of_ble_eq_true rfl) (ls' := [(4, .int (0 : Int32)), (3, .int ((w.1 14 (a1).toNatClampNeg) ||| ((1 : Int32) <<< (a1 &&& 31)))), (0, .ref 11), (1, .int a1), (2, .int a2)]) rfl ?_
  refine zm_sub [2, 4, 1, 0] rfl ?_
  exact k
theorem gX2_tellPart_35 {d : Nat} {Q : Value → zm_S → Prop} {w : zm_S} {a2 : Int32} {a3 : Int32} {a4 : Int32} (kt : (7 : Int32) ≤ a4 → zm_T zc_H d mX2_tellPart Q 79 [(0, .ref 11)] [] w) (kf : ¬ (7 : Int32) ≤ a4 → zm_T zc_H d mX2_tellPart Q 42 [(0, .ref 11), (2, .int a2), (3, .int a3), (4, .int a4)] [] w) : zm_T zc_H d mX2_tellPart Q 35 [(0, .ref 11), (2, .int a2), (3, .int a3), (4, .int a4)] [] w := by
  refine zm_iload (x := a4) 3 dX2_tellPart_35 rfl ?_
  refine zm_bipush dX2_tellPart_37 (v := (7 : Int32)) (by decide) ?_
  refine zm_icmp_ge 79 dX2_tellPart_39 (by decide) (fun h => ?_) (fun h => ?_)
  · refine zm_sub [0] rfl ?_
    exact kt h
  · exact kf h
theorem gX2_tellPart_42 {d : Nat} {Q : Value → zm_S → Prop} {w : zm_S} {a2 : Int32} {a3 : Int32} {a4 : Int32} (kt : a4 = a2 → zm_T zc_H d mX2_tellPart Q 62 [(0, .ref 11), (2, .int a2), (3, .int a3), (4, .int a4)] [] w) (kf : ¬ a4 = a2 → zm_T zc_H d mX2_tellPart Q 48 [(0, .ref 11), (2, .int a2), (3, .int a3), (4, .int a4)] [] w) : zm_T zc_H d mX2_tellPart Q 42 [(0, .ref 11), (2, .int a2), (3, .int a3), (4, .int a4)] [] w := by
  refine zm_iload (x := a4) 3 dX2_tellPart_42 rfl ?_
  refine zm_iload_n (x := a2) 1 dX2_tellPart_44 rfl rfl ?_
  refine zm_icmp_eq 62 dX2_tellPart_45 (by decide) (fun h => ?_) (fun h => ?_)
  · exact kt h
  · exact kf h
theorem gX2_tellPart_48 {d : Nat} {Q : Value → zm_S → Prop} {w : zm_S} {a2 : Int32} {a3 : Int32} {a4 : Int32} (hi54 : vp_in a4 7) (kt : ((w.1 14 (a4).toNatClampNeg) &&& ((1 : Int32) <<< (a2 &&& 31))) = 0 → zm_T zc_H d mX2_tellPart Q 73 [(0, .ref 11), (2, .int a2), (3, .int a3), (4, .int a4)] [] w) (kf : ¬ ((w.1 14 (a4).toNatClampNeg) &&& ((1 : Int32) <<< (a2 &&& 31))) = 0 → zm_T zc_H d mX2_tellPart Q 62 [(0, .ref 11), (2, .int a2), (3, .int a3), (4, .int a4)] [] w) : zm_T zc_H d mX2_tellPart Q 48 [(0, .ref 11), (2, .int a2), (3, .int a3), (4, .int a4)] [] w := by
  refine zm_aload_n (x := 11) 0 dX2_tellPart_48 rfl rfl ?_
  refine zm_getf (v := .ref 14) (j := 2) dX2_tellPart_49 clX2 flX2_18 (Nat.le_of_ble_eq_true rfl) zc_H11 rfl rfl ?_
  refine zm_iload (x := a4) 3 dX2_tellPart_52 rfl ?_
  refine zm_iald dX2_tellPart_54 zc_H14 hi54 ?_
  refine zm_iconst dX2_tellPart_55 (v := (1 : Int32)) (by decide) ?_
  refine zm_iload_n (x := a2) 1 dX2_tellPart_56 rfl rfl ?_
  refine zm_ishl dX2_tellPart_57 ?_
  refine zm_iand dX2_tellPart_58 ?_
  refine zm_if_eq 73 dX2_tellPart_59 (by decide) (fun h => ?_) (fun h => ?_)
  · exact kt h
  · exact kf h
theorem gX2_tellPart_62 {d : Nat} {Q : Value → zm_S → Prop} {w : zm_S} {a2 : Int32} {a3 : Int32} {a4 : Int32} (hi69 : vp_in a4 7) (hi72 : vp_in a4 7) (k : zm_T zc_H d mX2_tellPart Q 73 [(0, .ref 11), (2, .int a2), (3, .int a3), (4, .int a4)] [] (zm_pi w 14 (a4).toNatClampNeg ((w.1 14 (a4).toNatClampNeg) ||| a3))) : zm_T zc_H d mX2_tellPart Q 62 [(0, .ref 11), (2, .int a2), (3, .int a3), (4, .int a4)] [] w := by
  refine zm_aload_n (x := 11) 0 dX2_tellPart_62 rfl rfl ?_
  refine zm_getf (v := .ref 14) (j := 2) dX2_tellPart_63 clX2 flX2_18 (Nat.le_of_ble_eq_true rfl) zc_H11 rfl rfl ?_
  refine zm_iload (x := a4) 3 dX2_tellPart_66 rfl ?_
  refine zm_dup2 dX2_tellPart_68 rfl rfl ?_
  refine zm_iald dX2_tellPart_69 zc_H14 hi69 ?_
  refine zm_iload_n (x := a3) 2 dX2_tellPart_70 rfl rfl ?_
  refine zm_ior dX2_tellPart_71 ?_
  refine zm_iast dX2_tellPart_72 zc_H14 hi72 ?_
  exact k
theorem gX2_tellPart_73 {d : Nat} {Q : Value → zm_S → Prop} {w : zm_S} {a2 : Int32} {a3 : Int32} {a4 : Int32} (k : zm_T zc_H d mX2_tellPart Q 35 [(0, .ref 11), (2, .int a2), (3, .int a3), (4, .int (a4 + (1 : Int32)))] [] w) : zm_T zc_H d mX2_tellPart Q 73 [(0, .ref 11), (2, .int a2), (3, .int a3), (4, .int a4)] [] w := by
  refine zm_iinc 3 dX2_tellPart_73 (x := a4) (v := (a4 + (1 : Int32))) rfl rfl (Nat.le_of_ble_eq_true rfl) (ls' := [(4, .int (a4 + (1 : Int32))), (0, .ref 11), (2, .int a2), (3, .int a3)]) rfl ?_
  refine zm_goto 35 dX2_tellPart_76 (by decide) ?_
  refine zm_sub [1, 2, 3, 0] rfl ?_
  exact k
theorem gX2_tellPart_79 {d : Nat} {Q : Value → zm_S → Prop} {w : zm_S} (k : Q .null (zm_pi w 11 4 ((w.1 11 4) + (1 : Int32)))) : zm_T zc_H d mX2_tellPart Q 79 [(0, .ref 11)] [] w := by
  refine zm_aload_n (x := 11) 0 dX2_tellPart_79 rfl rfl ?_
  refine zm_dup dX2_tellPart_80 rfl ?_
  refine zm_getf (v := .int (w.1 11 4)) (j := 4) dX2_tellPart_81 clX2 flX2_44 (Nat.le_of_ble_eq_true rfl) zc_H11 rfl rfl ?_
  refine zm_iconst dX2_tellPart_84 (v := (1 : Int32)) (by decide) ?_
  refine zm_iadd dX2_tellPart_85 ?_
  refine zm_putf (j := 4) (ty := .int) dX2_tellPart_86 clX2 flX2_44 (Nat.le_of_ble_eq_true rfl) zc_H11 rfl rfl (by decide +kernel) rfl rfl ?_
  exact zm_return dX2_tellPart_89 rfl k
