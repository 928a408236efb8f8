theorem gX5_renew_0 {d : Nat} {Q : Value → zm_S → Prop} {w : zm_S} {oa0 : Nat} {a1 : Int32} {a2 : Int32} {Q' : Value → zm_S → Prop} (hoa0 : zc_sh oa0) (hC : zm_C zc_H d mJ7_fill_53178 [.ref (oa0 + 1), .int (0 : Int32)] w Q') (k : ∀ (u : zm_S), Q' .null u → zm_T zc_H (d + 1) mX5_renew Q 8 [(0, .ref oa0), (1, .int a1), (2, .int a2)] [] u) : zm_T zc_H (d + 1) mX5_renew Q 0 [(0, .ref oa0), (1, .int a1), (2, .int a2)] [] w := by
  refine zm_aload_n (x := oa0) 0 dX5_renew_0 rfl rfl ?_
  refine zm_getf (v := .ref (oa0 + 1)) (j := 0) dX5_renew_1 clX5 flX5_9 (Nat.le_of_ble_eq_true rfl) hoa0.1 rfl rfl ?_
  refine zm_iconst dX5_renew_4 (v := (0 : Int32)) (by decide) ?_
  refine zm_callSv (as := [.ref (oa0 + 1), .int (0 : Int32)]) (rest := []) dX5_renew_5 rfl mtJ7_fill_53178 lkX5_19 rfl (Nat.le_of_ble_eq_true rfl) hC rfl (fun u hq => ?_)
  exact k u hq
theorem gX5_renew_8 {d : Nat} {Q : Value → zm_S → Prop} {w : zm_S} {oa0 : Nat} {a1 : Int32} {a2 : Int32} (hoa0 : zc_sh oa0) (k : Q .null (zm_pi (zm_pi (zm_pi w oa0 2 a1) oa0 3 a2) oa0 1 (0 : Int32))) : zm_T zc_H d mX5_renew Q 8 [(0, .ref oa0), (1, .int a1), (2, .int a2)] [] w := by
  refine zm_aload_n (x := oa0) 0 dX5_renew_8 rfl rfl ?_
  refine zm_iload_n (x := a1) 1 dX5_renew_9 rfl rfl ?_
  refine zm_putf (j := 2) (ty := .int) dX5_renew_10 clX5 flX5_25 (Nat.le_of_ble_eq_true rfl) hoa0.1 rfl rfl (by decide +kernel) rfl rfl ?_
  refine zm_aload_n (x := oa0) 0 dX5_renew_13 rfl rfl ?_
  refine zm_iload_n (x := a2) 2 dX5_renew_14 rfl rfl ?_
  refine zm_putf (j := 3) (ty := .int) dX5_renew_15 clX5 flX5_29 (Nat.le_of_ble_eq_true rfl) hoa0.1 rfl rfl (by decide +kernel) rfl rfl ?_
  refine zm_aload_n (x := oa0) 0 dX5_renew_18 rfl rfl ?_
  refine zm_iconst dX5_renew_19 (v := (0 : Int32)) (by decide) ?_
  refine zm_putf (j := 1) (ty := .boolean) dX5_renew_20 clX5 flX5_15 (Nat.le_of_ble_eq_true rfl) hoa0.1 rfl rfl (by decide +kernel) rfl (by decide) ?_
  exact zm_return dX5_renew_23 rfl k
theorem gX5_findingAt_0 {d : Nat} {Q : Value → zm_S → Prop} {w : zm_S} {oa0 : Nat} {a1 : Int32} {a2 : Int32} (hoa0 : zc_sh oa0) (kt : (w.1 oa0 1) = 0 → zm_T zc_H d mX5_findingAt Q 9 [(0, .ref oa0), (1, .int a1), (2, .int a2)] [] w) (kf : ¬ (w.1 oa0 1) = 0 → zm_T zc_H d mX5_findingAt Q 7 [] [] w) : zm_T zc_H d mX5_findingAt Q 0 [(0, .ref oa0), (1, .int a1), (2, .int a2)] [] w := by
  refine zm_aload_n (x := oa0) 0 dX5_findingAt_0 rfl rfl ?_
  refine zm_getf (v := .int (w.1 oa0 1)) (j := 1) dX5_findingAt_1 clX5 flX5_15 (Nat.le_of_ble_eq_true rfl) hoa0.1 rfl rfl ?_
  refine zm_if_eq 9 dX5_findingAt_4 (by decide) (fun h => ?_) (fun h => ?_)
  · exact kt h
  · refine zm_sub [] rfl ?_
    exact kf h
theorem gX5_findingAt_7 {d : Nat} {Q : Value → zm_S → Prop} {w : zm_S} (k : Q (.int (1 : Int32)) w) : zm_T zc_H d mX5_findingAt Q 7 [] [] w := by
  refine zm_iconst dX5_findingAt_7 (v := (1 : Int32)) (by decide) ?_
  exact zm_ireturn dX5_findingAt_8 rfl k
theorem gX5_findingAt_9 {d : Nat} {Q : Value → zm_S → Prop} {w : zm_S} {oa0 : Nat} {a1 : Int32} {a2 : Int32} (hoa0 : zc_sh oa0) (kt : a1 = (w.1 oa0 2) → zm_T zc_H d mX5_findingAt Q 19 [(0, .ref oa0), (2, .int a2)] [] w) (kf : ¬ a1 = (w.1 oa0 2) → zm_T zc_H d mX5_findingAt Q 17 [] [] w) : zm_T zc_H d mX5_findingAt Q 9 [(0, .ref oa0), (1, .int a1), (2, .int a2)] [] w := by
  refine zm_iload_n (x := a1) 1 dX5_findingAt_9 rfl rfl ?_
  refine zm_aload_n (x := oa0) 0 dX5_findingAt_10 rfl rfl ?_
  refine zm_getf (v := .int (w.1 oa0 2)) (j := 2) dX5_findingAt_11 clX5 flX5_25 (Nat.le_of_ble_eq_true rfl) hoa0.1 rfl rfl ?_
  refine zm_icmp_eq 19 dX5_findingAt_14 (by decide) (fun h => ?_) (fun h => ?_)
  · refine zm_sub [0, 2] rfl ?_
    exact kt h
  · refine zm_sub [] rfl ?_
    exact kf h
theorem gX5_findingAt_17 {d : Nat} {Q : Value → zm_S → Prop} {w : zm_S} (k : Q (.int (3 : Int32)) w) : zm_T zc_H d mX5_findingAt Q 17 [] [] w := by
  refine zm_iconst dX5_findingAt_17 (v := (3 : Int32)) (by decide) ?_
  exact zm_ireturn dX5_findingAt_18 rfl k
theorem gX5_findingAt_19 {d : Nat} {Q : Value → zm_S → Prop} {w : zm_S} {oa0 : Nat} {a2 : Int32} {Q' : Value → zm_S → Prop} (hoa0 : zc_sh oa0) (hC : zm_C zc_H d mX7_within [.int a2, .int (w.1 oa0 3)] w Q') (k : ∀ (r : Int32) (u : zm_S), Q' (.int r) u → zm_T zc_H (d + 1) mX5_findingAt Q 27 [] [.int r] u) : zm_T zc_H (d + 1) mX5_findingAt Q 19 [(0, .ref oa0), (2, .int a2)] [] w := by
  refine zm_iload_n (x := a2) 1 dX5_findingAt_19 rfl rfl ?_
  refine zm_aload_n (x := oa0) 0 dX5_findingAt_20 rfl rfl ?_
  refine zm_getf (v := .int (w.1 oa0 3)) (j := 3) dX5_findingAt_21 clX5 flX5_29 (Nat.le_of_ble_eq_true rfl) hoa0.1 rfl rfl ?_
  refine zm_callSNz (as := [.int a2, .int (w.1 oa0 3)]) (rest := []) dX5_findingAt_24 rfl mtX7_within lkX5_32 rfl (Nat.le_of_ble_eq_true rfl) hC rfl (fun r u hq => ?_)
  refine zm_sub [] rfl ?_
  exact k r u hq
theorem gX5_findingAt_27 {d : Nat} {Q : Value → zm_S → Prop} {w : zm_S} {s0 : Int32} (kt : s0 = 0 → zm_T zc_H d mX5_findingAt Q 34 [] [] w) (kf : ¬ s0 = 0 → zm_T zc_H d mX5_findingAt Q 30 [] [] w) : zm_T zc_H d mX5_findingAt Q 27 [] [.int s0] w := by
  refine zm_if_eq 34 dX5_findingAt_27 (by decide) (fun h => ?_) (fun h => ?_)
  · exact kt h
  · exact kf h
theorem gX5_findingAt_30 {d : Nat} {Q : Value → zm_S → Prop} {w : zm_S} (k : Q (.int (0 : Int32)) w) : zm_T zc_H d mX5_findingAt Q 30 [] [] w := by
  refine zm_iconst dX5_findingAt_30 (v := (0 : Int32)) (by decide) ?_
  refine zm_goto 35 dX5_findingAt_31 (by decide) ?_
  exact zm_ireturn dX5_findingAt_35 rfl k
theorem gX5_findingAt_34 {d : Nat} {Q : Value → zm_S → Prop} {w : zm_S} (k : Q (.int (2 : Int32)) w) : zm_T zc_H d mX5_findingAt Q 34 [] [] w := by
  refine zm_iconst dX5_findingAt_34 (v := (2 : Int32)) (by decide) ?_
  exact zm_ireturn dX5_findingAt_35 rfl k
theorem gX5_hasRange_0 {d : Nat} {Q : Value → zm_S → Prop} {w : zm_S} {oa0 : Nat} {a1 : Int32} {a2 : Int32} (hoa0 : zc_sh oa0) (kt : a1 < 0 → zm_T zc_H d mX5_hasRange Q 30 [] [] w) (kf : ¬ a1 < 0 → zm_T zc_H d mX5_hasRange Q 4 [(0, .ref oa0), (1, .int a1), (2, .int a2)] [] w) : zm_T zc_H d mX5_hasRange Q 0 [(0, .ref oa0), (1, .int a1), (2, .int a2)] [] w := by
  refine zm_iload_n (x := a1) 1 dX5_hasRange_0 rfl rfl ?_
  refine zm_if_lt 30 dX5_hasRange_1 (by decide) (fun h => ?_) (fun h => ?_)
  · refine zm_sub [] rfl ?_
    exact kt h
  · exact kf h
theorem gX5_hasRange_4 {d : Nat} {Q : Value → zm_S → Prop} {w : zm_S} {oa0 : Nat} {a1 : Int32} {a2 : Int32} (hoa0 : zc_sh oa0) (kt : a2 < 0 → zm_T zc_H d mX5_hasRange Q 30 [] [] w) (kf : ¬ a2 < 0 → zm_T zc_H d mX5_hasRange Q 8 [(0, .ref oa0), (1, .int a1), (2, .int a2)] [] w) : zm_T zc_H d mX5_hasRange Q 4 [(0, .ref oa0), (1, .int a1), (2, .int a2)] [] w := by
  refine zm_iload_n (x := a2) 2 dX5_hasRange_4 rfl rfl ?_
  refine zm_if_lt 30 dX5_hasRange_5 (by decide) (fun h => ?_) (fun h => ?_)
  · refine zm_sub [] rfl ?_
    exact kt h
  · exact kf h
theorem gX5_hasRange_8 {d : Nat} {Q : Value → zm_S → Prop} {w : zm_S} {oa0 : Nat} {a1 : Int32} {a2 : Int32} (hoa0 : zc_sh oa0) (kt : (w.1 oa0 3) < a2 → zm_T zc_H d mX5_hasRange Q 30 [] [] w) (kf : ¬ (w.1 oa0 3) < a2 → zm_T zc_H d mX5_hasRange Q 16 [(0, .ref oa0), (1, .int a1), (2, .int a2)] [] w) : zm_T zc_H d mX5_hasRange Q 8 [(0, .ref oa0), (1, .int a1), (2, .int a2)] [] w := by
  refine zm_iload_n (x := a2) 2 dX5_hasRange_8 rfl rfl ?_
  refine zm_aload_n (x := oa0) 0 dX5_hasRange_9 rfl rfl ?_
  refine zm_getf (v := .int (w.1 oa0 3)) (j := 3) dX5_hasRange_10 clX5 flX5_29 (Nat.le_of_ble_eq_true rfl) hoa0.1 rfl rfl ?_
  refine zm_icmp_gt 30 dX5_hasRange_13 (by decide) (fun h => ?_) (fun h => ?_)
  · refine zm_sub [] rfl ?_
    exact kt h
  · exact kf h
theorem gX5_hasRange_16 {d : Nat} {Q : Value → zm_S → Prop} {w : zm_S} {oa0 : Nat} {a1 : Int32} {a2 : Int32} (hoa0 : zc_sh oa0) (kt : ((w.1 oa0 3) - a2) < a1 → zm_T zc_H d mX5_hasRange Q 30 [] [] w) (kf : ¬ ((w.1 oa0 3) - a2) < a1 → zm_T zc_H d mX5_hasRange Q 26 [] [] w) : zm_T zc_H d mX5_hasRange Q 16 [(0, .ref oa0), (1, .int a1), (2, .int a2)] [] w := by
  refine zm_iload_n (x := a1) 1 dX5_hasRange_16 rfl rfl ?_
  refine zm_aload_n (x := oa0) 0 dX5_hasRange_17 rfl rfl ?_
  refine zm_getf (v := .int (w.1 oa0 3)) (j := 3) dX5_hasRange_18 clX5 flX5_29 (Nat.le_of_ble_eq_true rfl) hoa0.1 rfl rfl ?_
  refine zm_iload_n (x := a2) 2 dX5_hasRange_21 rfl rfl ?_
  refine zm_isub dX5_hasRange_22 ?_
  refine zm_icmp_gt 30 dX5_hasRange_23 (by decide) (fun h => ?_) (fun h => ?_)
  · refine zm_sub [] rfl ?_
    exact kt h
  · refine zm_sub [] rfl ?_
    exact kf h
theorem gX5_hasRange_26 {d : Nat} {Q : Value → zm_S → Prop} {w : zm_S} (k : Q (.int (1 : Int32)) w) : zm_T zc_H d mX5_hasRange Q 26 [] [] w := by
  refine zm_iconst dX5_hasRange_26 (v := (1 : Int32)) (by decide) ?_
  refine zm_goto 31 dX5_hasRange_27 (by decide) ?_
  exact zm_zreturn dX5_hasRange_31 rfl (by decide) k
theorem gX5_hasRange_30 {d : Nat} {Q : Value → zm_S → Prop} {w : zm_S} (k : Q (.int (0 : Int32)) w) : zm_T zc_H d mX5_hasRange Q 30 [] [] w := by
  refine zm_iconst dX5_hasRange_30 (v := (0 : Int32)) (by decide) ?_
  exact zm_zreturn dX5_hasRange_31 rfl (by decide) k
theorem gX5_put_0 {d : Nat} {Q : Value → zm_S → Prop} {w : zm_S} {oa0 : Nat} {a1 : Int32} {a2 : Int32} {Q' : Value → zm_S → Prop} (hoa0 : zc_sh oa0) (hC : zm_C zc_H d mX7_within [.int a1, .int (w.1 oa0 3)] w Q') (k : ∀ (r : Int32) (u : zm_S), Q' (.int r) u → zm_T zc_H (d + 1) mX5_put Q 8 [(0, .ref oa0), (1, .int a1), (2, .int a2)] [.int r] u) : zm_T zc_H (d + 1) mX5_put Q 0 [(0, .ref oa0), (1, .int a1), (2, .int a2)] [] w := by
  refine zm_iload_n (x := a1) 1 dX5_put_0 rfl rfl ?_
  refine zm_aload_n (x := oa0) 0 dX5_put_1 rfl rfl ?_
  refine zm_getf (v := .int (w.1 oa0 3)) (j := 3) dX5_put_2 clX5 flX5_29 (Nat.le_of_ble_eq_true rfl) hoa0.1 rfl rfl ?_
  refine zm_callSNz (as := [.int a1, .int (w.1 oa0 3)]) (rest := []) dX5_put_5 rfl mtX7_within lkX5_32 rfl (Nat.le_of_ble_eq_true rfl) hC rfl (fun r u hq => ?_)
  exact k r u hq
theorem gX5_put_8 {d : Nat} {Q : Value → zm_S → Prop} {w : zm_S} {oa0 : Nat} {a1 : Int32} {a2 : Int32} {s0 : Int32} (hoa0 : zc_sh oa0) (kt : s0 = 0 → zm_T zc_H d mX5_put Q 43 [] [] w) (kf : ¬ s0 = 0 → zm_T zc_H d mX5_put Q 11 [(0, .ref oa0), (1, .int a1), (2, .int a2)] [] w) : zm_T zc_H d mX5_put Q 8 [(0, .ref oa0), (1, .int a1), (2, .int a2)] [.int s0] w := by
  refine zm_if_eq 43 dX5_put_8 (by decide) (fun h => ?_) (fun h => ?_)
  · refine zm_sub [] rfl ?_
    exact kt h
  · exact kf h
theorem gX5_put_11 {d : Nat} {Q : Value → zm_S → Prop} {w : zm_S} {oa0 : Nat} {a1 : Int32} {a2 : Int32} (hoa0 : zc_sh oa0) (kt : ¬ (w.1 oa0 2) = 0 → zm_T zc_H d mX5_put Q 28 [(0, .ref oa0), (2, .int a2)] [.int a1, .ref (oa0 + 1)] w) (kf : (w.1 oa0 2) = 0 → zm_T zc_H d mX5_put Q 23 [(2, .int a2)] [.int a1, .ref (oa0 + 1)] w) : zm_T zc_H d mX5_put Q 11 [(0, .ref oa0), (1, .int a1), (2, .int a2)] [] w := by
  refine zm_aload_n (x := oa0) 0 dX5_put_11 rfl rfl ?_
  refine zm_getf (v := .ref (oa0 + 1)) (j := 0) dX5_put_12 clX5 flX5_9 (Nat.le_of_ble_eq_true rfl) hoa0.1 rfl rfl ?_
  refine zm_iload_n (x := a1) 1 dX5_put_15 rfl rfl ?_
  refine zm_aload_n (x := oa0) 0 dX5_put_16 rfl rfl ?_
  refine zm_getf (v := .int (w.1 oa0 2)) (j := 2) dX5_put_17 clX5 flX5_25 (Nat.le_of_ble_eq_true rfl) hoa0.1 rfl rfl ?_
  refine zm_if_ne 28 dX5_put_20 (by decide) (fun h => ?_) (fun h => ?_)
  · refine zm_sub [0, 2] rfl ?_
    exact kt h
  · refine zm_sub [2] rfl ?_
    exact kf h
theorem gX5_put_23 {d : Nat} {Q : Value → zm_S → Prop} {w : zm_S} {a2 : Int32} {s0 : Int32} {os1 : Nat} (hos1 : zc_H[os1]? = some (.inl (.int, 60, []))) (hi42 : vp_in s0 60) (k : zm_T zc_H d mX5_put Q 43 [] [] (zm_pi w os1 (s0).toNatClampNeg ((a2).toInt8.toInt32))) : zm_T zc_H d mX5_put Q 23 [(2, .int a2)] [.int s0, .ref os1] w := by
  refine zm_iload_n (x := a2) 0 dX5_put_23 rfl rfl ?_
  refine zm_i2b dX5_put_24 ?_
  refine zm_goto 42 dX5_put_25 (by decide) ?_
  refine zm_iast dX5_put_42 hos1 hi42 ?_
  refine zm_sub [] rfl ?_
  exact k
theorem gX5_put_28 {d : Nat} {Q : Value → zm_S → Prop} {w : zm_S} {oa0 : Nat} {a2 : Int32} {s0 : Int32} {os1 : Nat} (hoa0 : zc_sh oa0) (hos1 : zc_H[os1]? = some (.inl (.int, 60, []))) (kt : ¬ (w.1 oa0 2) = (1 : Int32) → zm_T zc_H d mX5_put Q 41 [(2, .int a2)] [.int s0, .ref os1] w) (kf : (w.1 oa0 2) = (1 : Int32) → zm_T zc_H d mX5_put Q 36 [(2, .int a2)] [.int s0, .ref os1] w) : zm_T zc_H d mX5_put Q 28 [(0, .ref oa0), (2, .int a2)] [.int s0, .ref os1] w := by
  refine zm_aload_n (x := oa0) 0 dX5_put_28 rfl rfl ?_
  refine zm_getf (v := .int (w.1 oa0 2)) (j := 2) dX5_put_29 clX5 flX5_25 (Nat.le_of_ble_eq_true rfl) hoa0.1 rfl rfl ?_
  refine zm_iconst dX5_put_32 (v := (1 : Int32)) (by decide) ?_
  refine zm_icmp_ne 41 dX5_put_33 (by decide) (fun h => ?_) (fun h => ?_)
  · refine zm_sub [1] rfl ?_
    exact kt h
  · refine zm_sub [1] rfl ?_
    exact kf h
theorem gX5_put_36 {d : Nat} {Q : Value → zm_S → Prop} {w : zm_S} {a2 : Int32} {s0 : Int32} {os1 : Nat} (hos1 : zc_H[os1]? = some (.inl (.int, 60, []))) (hi42 : vp_in s0 60) (k : zm_T zc_H d mX5_put Q 43 [] [] (zm_pi w os1 (s0).toNatClampNeg ((a2).toInt16.toInt32))) : zm_T zc_H d mX5_put Q 36 [(2, .int a2)] [.int s0, .ref os1] w := by
  refine zm_iload_n (x := a2) 0 dX5_put_36 rfl rfl ?_
  refine zm_i2s dX5_put_37 ?_
  refine zm_goto 42 dX5_put_38 (by decide) ?_
  refine zm_iast dX5_put_42 hos1 hi42 ?_
  refine zm_sub [] rfl ?_
  exact k
theorem gX5_put_41 {d : Nat} {Q : Value → zm_S → Prop} {w : zm_S} {a2 : Int32} {s0 : Int32} {os1 : Nat} (hos1 : zc_H[os1]? = some (.inl (.int, 60, []))) (hi42 : vp_in s0 60) (k : zm_T zc_H d mX5_put Q 43 [] [] (zm_pi w os1 (s0).toNatClampNeg a2)) : zm_T zc_H d mX5_put Q 41 [(2, .int a2)] [.int s0, .ref os1] w := by
  refine zm_iload_n (x := a2) 0 dX5_put_41 rfl rfl ?_
  refine zm_iast dX5_put_42 hos1 hi42 ?_
  refine zm_sub [] rfl ?_
  exact k
theorem gX5_put_43 {d : Nat} {Q : Value → zm_S → Prop} {w : zm_S} (k : Q .null w) : zm_T zc_H d mX5_put Q 43 [] [] w := by
  exact zm_return dX5_put_43 rfl k
