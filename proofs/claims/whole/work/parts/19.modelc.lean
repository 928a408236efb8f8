theorem gX8_fit_7 {d : Nat} {Q : Value → zm_S → Prop} {w : zm_S} {a1 : Int32} {a2 : Int32} {Q' : Value → zm_S → Prop} (hC : zm_C zd_H d mX8_isTwo [.int a2] w Q') (k : ∀ (r : Int32) (u : zm_S), Q' (.int r) u → zm_T zd_H (d + 1) mX8_fit Q 11 [(0, .ref 0), (1, .int a1), (2, .int a2)] [.int r] u) : zm_T zd_H (d + 1) mX8_fit Q 7 [(0, .ref 0), (1, .int a1), (2, .int a2)] [] w := by
  refine zm_iload_n (x := a2) 2 dX8_fit_7 rfl rfl ?_
  refine zm_callSz (as := [.int a2]) (rest := []) dX8_fit_8 rfl mtX8_isTwo lkX8_179 rfl (Nat.le_of_ble_eq_true rfl) hC rfl (fun r u hq => ?_)
  exact k r u hq
theorem gX8_fit_11 {d : Nat} {Q : Value → zm_S → Prop} {w : zm_S} {a1 : Int32} {a2 : Int32} {s0 : Int32} (kt : s0 = 0 → zm_T zd_H d mX8_fit Q 23 [] [] w) (kf : ¬ s0 = 0 → zm_T zd_H d mX8_fit Q 14 [(0, .ref 0), (1, .int a1), (2, .int a2)] [] w) : zm_T zd_H d mX8_fit Q 11 [(0, .ref 0), (1, .int a1), (2, .int a2)] [.int s0] w := by
  refine zm_if_eq 23 dX8_fit_11 (by decide) (fun h => ?_) (fun h => ?_)
  · refine zm_sub [] rfl ?_
    exact kt h
  · exact kf h
theorem gX8_fit_14 {d : Nat} {Q : Value → zm_S → Prop} {w : zm_S} {a1 : Int32} {a2 : Int32} {Q' : Value → zm_S → Prop} (hC : zm_C zd_H d mX8_fitOf [.ref 0, .int a1, .int a2] w Q') (k : ∀ (r : Int64) (u : zm_S), Q' (.long r) u → zm_T zd_H (d + 1) mX8_fit Q 20 [] [.long r] u) : zm_T zd_H (d + 1) mX8_fit Q 14 [(0, .ref 0), (1, .int a1), (2, .int a2)] [] w := by
  refine zm_aload_n (x := 0) 0 dX8_fit_14 rfl rfl ?_
  refine zm_iload_n (x := a1) 1 dX8_fit_15 rfl rfl ?_
  refine zm_iload_n (x := a2) 2 dX8_fit_16 rfl rfl ?_
  refine zm_callVl (as := [.int a1, .int a2]) (rest := []) dX8_fit_17 rfl mtX8_fitOf lkX8_245 zd_H0 (C := RX8) rfl rfl rfl (Nat.le_of_ble_eq_true rfl) hC rfl (fun r u hq => ?_)
  refine zm_sub [] rfl ?_
  exact k r u hq
theorem gX8_fit_20 {d : Nat} {Q : Value → zm_S → Prop} {w : zm_S} {s0 : Int64} (k : zm_T zd_H d mX8_fit Q 28 [] [.long s0] w) : zm_T zd_H d mX8_fit Q 20 [] [.long s0] w := by
  refine zm_goto 28 dX8_fit_20 (by decide) ?_
  exact k
theorem gX8_fit_23 {d : Nat} {Q : Value → zm_S → Prop} {w : zm_S} {Q' : Value → zm_S → Prop} (hC : zm_C zd_H d mX8_no [.int (-2 : Int32)] w Q') (k : ∀ (r : Int64) (u : zm_S), Q' (.long r) u → zm_T zd_H (d + 1) mX8_fit Q 28 [] [.long r] u) : zm_T zd_H (d + 1) mX8_fit Q 23 [] [] w := by
  refine zm_bipush dX8_fit_23 (v := (-2 : Int32)) (by decide) ?_
  refine zm_callSl (as := [.int (-2 : Int32)]) (rest := []) dX8_fit_25 rfl mtX8_no lkX8_234 rfl (Nat.le_of_ble_eq_true rfl) hC rfl (fun r u hq => ?_)
  exact k r u hq
theorem gX8_fit_28 {d : Nat} {Q : Value → zm_S → Prop} {w : zm_S} {s0 : Int64} (k : Q (.long s0) w) : zm_T zd_H d mX8_fit Q 28 [] [.long s0] w := by
  exact zm_lreturn dX8_fit_28 rfl k
theorem gX8_oddNow_0 {d : Nat} {Q : Value → zm_S → Prop} {w : zm_S} {Q' : Value → zm_S → Prop} (hC : zm_C zd_H d mX8_findBest [.ref 0] w Q') (k : ∀ (u : zm_S), Q' .null u → zm_T zd_H (d + 1) mX8_oddNow Q 4 [(0, .ref 0)] [] u) : zm_T zd_H (d + 1) mX8_oddNow Q 0 [(0, .ref 0)] [] w := by
  refine zm_aload_n (x := 0) 0 dX8_oddNow_0 rfl rfl ?_
  refine zm_callVv (as := []) (rest := []) dX8_oddNow_1 rfl mtX8_findBest lkX8_222 zd_H0 (C := RX8) rfl rfl rfl (Nat.le_of_ble_eq_true rfl) hC rfl (fun u hq => ?_)
  exact k u hq
theorem gX8_oddNow_4 {d : Nat} {Q : Value → zm_S → Prop} {w : zm_S} (k : zm_T zd_H d mX8_oddNow Q 10 [(0, .ref 0), (1, .int (-1 : Int32)), (2, .int (0 : Int32)), (3, .int (0 : Int32))] [] w) : zm_T zd_H d mX8_oddNow Q 4 [(0, .ref 0)] [] w := by
  refine zm_iconst dX8_oddNow_4 (v := (-1 : Int32)) (by decide) ?_
  refine zm_istore_n dX8_oddNow_5 rfl (Nat.le_of_ble_eq_true rfl) (ls' := [(1, .int (-1 : Int32)), (0, .ref 0)]) rfl ?_
  refine zm_iconst dX8_oddNow_6 (v := (0 : Int32)) (by decide) ?_
  refine zm_istore_n dX8_oddNow_7 rfl (Nat.le_of_ble_eq_true rfl) (ls' := [(2, .int (0 : Int32)), (1, .int (-1 : Int32)), (0, .ref 0)]) rfl ?_
  refine zm_iconst dX8_oddNow_8 (v := (0 : Int32)) (by decide) ?_
  refine zm_istore_n dX8_oddNow_9 rfl (Nat.le_of_ble_eq_true rfl) (ls' := [(3, .int (0 : Int32)), (2, .int (0 : Int32)), (1, .int (-1 : Int32)), (0, .ref 0)]) rfl ?_
  refine zm_sub [3, 2, 1, 0] rfl ?_
  exact k
theorem gX8_oddNow_10 {d : Nat} {Q : Value → zm_S → Prop} {w : zm_S} {a1 : Int32} {a2 : Int32} {a3 : Int32} (kt : (12 : Int32) ≤ a3 → zm_T zd_H d mX8_oddNow Q 55 [(1, .int a1)] [] w) (kf : ¬ (12 : Int32) ≤ a3 → zm_T zd_H d mX8_oddNow Q 16 [(0, .ref 0), (1, .int a1), (2, .int a2), (3, .int a3)] [] w) : zm_T zd_H d mX8_oddNow Q 10 [(0, .ref 0), (1, .int a1), (2, .int a2), (3, .int a3)] [] w := by
  refine zm_iload_n (x := a3) 3 dX8_oddNow_10 rfl rfl ?_
  refine zm_bipush dX8_oddNow_11 (v := (12 : Int32)) (by decide) ?_
  refine zm_icmp_ge 55 dX8_oddNow_13 (by decide) (fun h => ?_) (fun h => ?_)
  · refine zm_sub [1] rfl ?_
    exact kt h
  · exact kf h
theorem gX8_oddNow_16 {d : Nat} {Q : Value → zm_S → Prop} {w : zm_S} {a1 : Int32} {a2 : Int32} {a3 : Int32} {Q' : Value → zm_S → Prop} (hC : zm_C zd_H d mX8_stepOf [.ref 0, .int a3, .int (1 : Int32)] w Q') (k : ∀ (r : Int32) (u : zm_S), Q' (.int r) u → zm_T zd_H (d + 1) mX8_oddNow Q 22 [(0, .ref 0), (1, .int a1), (2, .int a2), (3, .int a3)] [.int r] u) : zm_T zd_H (d + 1) mX8_oddNow Q 16 [(0, .ref 0), (1, .int a1), (2, .int a2), (3, .int a3)] [] w := by
  refine zm_aload_n (x := 0) 0 dX8_oddNow_16 rfl rfl ?_
  refine zm_iload_n (x := a3) 3 dX8_oddNow_17 rfl rfl ?_
  refine zm_iconst dX8_oddNow_18 (v := (1 : Int32)) (by decide) ?_
  refine zm_callVi (as := [.int a3, .int (1 : Int32)]) (rest := []) dX8_oddNow_19 rfl mtX8_stepOf lkX8_225 zd_H0 (C := RX8) rfl rfl rfl (Nat.le_of_ble_eq_true rfl) hC rfl (fun r u hq => ?_)
  exact k r u hq
theorem gX8_oddNow_22 {d : Nat} {Q : Value → zm_S → Prop} {w : zm_S} {a1 : Int32} {a2 : Int32} {a3 : Int32} {s0 : Int32} (kt : s0 ≤ a2 → zm_T zd_H d mX8_oddNow Q 34 [(0, .ref 0), (1, .int a1), (2, .int a2), (3, .int a3), (4, .int s0)] [] w) (kf : ¬ s0 ≤ a2 → zm_T zd_H d mX8_oddNow Q 30 [(0, .ref 0), (2, .int a2), (3, .int a3), (4, .int s0)] [] w) : zm_T zd_H d mX8_oddNow Q 22 [(0, .ref 0), (1, .int a1), (2, .int a2), (3, .int a3)] [.int s0] w := by
  refine zm_istore dX8_oddNow_22 (Nat.le_of_ble_eq_true rfl) (ls' := [(4, .int s0), (0, .ref 0), (1, .int a1), (2, .int a2), (3, .int a3)]) rfl ?_
  refine zm_iload (x := s0) 0 dX8_oddNow_24 rfl ?_
  refine zm_iload_n (x := a2) 3 dX8_oddNow_26 rfl rfl ?_
  refine zm_icmp_le 34 dX8_oddNow_27 (by decide) (fun h => ?_) (fun h => ?_)
  · refine zm_sub [1, 2, 3, 4, 0] rfl ?_
    exact kt h
  · refine zm_sub [1, 3, 4, 0] rfl ?_
    exact kf h
theorem gX8_oddNow_30 {d : Nat} {Q : Value → zm_S → Prop} {w : zm_S} {a2 : Int32} {a3 : Int32} {a4 : Int32} (k : zm_T zd_H d mX8_oddNow Q 35 [(0, .ref 0), (2, .int a2), (3, .int a3), (4, .int a4)] [.int a3] w) : zm_T zd_H d mX8_oddNow Q 30 [(0, .ref 0), (2, .int a2), (3, .int a3), (4, .int a4)] [] w := by
  refine zm_iload_n (x := a3) 2 dX8_oddNow_30 rfl rfl ?_
  refine zm_goto 35 dX8_oddNow_31 (by decide) ?_
  exact k
theorem gX8_oddNow_34 {d : Nat} {Q : Value → zm_S → Prop} {w : zm_S} {a1 : Int32} {a2 : Int32} {a3 : Int32} {a4 : Int32} (k : zm_T zd_H d mX8_oddNow Q 35 [(0, .ref 0), (2, .int a2), (3, .int a3), (4, .int a4)] [.int a1] w) : zm_T zd_H d mX8_oddNow Q 34 [(0, .ref 0), (1, .int a1), (2, .int a2), (3, .int a3), (4, .int a4)] [] w := by
  refine zm_iload_n (x := a1) 1 dX8_oddNow_34 rfl rfl ?_
  refine zm_sub [0, 2, 3, 4] rfl ?_
  exact k
theorem gX8_oddNow_35 {d : Nat} {Q : Value → zm_S → Prop} {w : zm_S} {a2 : Int32} {a3 : Int32} {a4 : Int32} {s0 : Int32} (kt : a4 ≤ a2 → zm_T zd_H d mX8_oddNow Q 47 [(0, .ref 0), (1, .int s0), (2, .int a2), (3, .int a3)] [] w) (kf : ¬ a4 ≤ a2 → zm_T zd_H d mX8_oddNow Q 42 [(0, .ref 0), (1, .int s0), (3, .int a3), (4, .int a4)] [] w) : zm_T zd_H d mX8_oddNow Q 35 [(0, .ref 0), (2, .int a2), (3, .int a3), (4, .int a4)] [.int s0] w := by
  refine zm_istore_n dX8_oddNow_35 rfl (Nat.le_of_ble_eq_true rfl) (ls' := [(1, .int s0), (0, .ref 0), (2, .int a2), (3, .int a3), (4, .int a4)]) rfl ?_
  refine zm_iload (x := a4) 4 dX8_oddNow_36 rfl ?_
  refine zm_iload_n (x := a2) 2 dX8_oddNow_38 rfl rfl ?_
  refine zm_icmp_le 47 dX8_oddNow_39 (by decide) (fun h => ?_) (fun h => ?_)
  · refine zm_sub [1, 0, 2, 3] rfl ?_
    exact kt h
  · refine zm_sub [1, 0, 3, 4] rfl ?_
    exact kf h
theorem gX8_oddNow_42 {d : Nat} {Q : Value → zm_S → Prop} {w : zm_S} {a1 : Int32} {a3 : Int32} {a4 : Int32} (k : zm_T zd_H d mX8_oddNow Q 48 [(0, .ref 0), (1, .int a1), (3, .int a3)] [.int a4] w) : zm_T zd_H d mX8_oddNow Q 42 [(0, .ref 0), (1, .int a1), (3, .int a3), (4, .int a4)] [] w := by
  refine zm_iload (x := a4) 3 dX8_oddNow_42 rfl ?_
  refine zm_goto 48 dX8_oddNow_44 (by decide) ?_
  refine zm_sub [0, 1, 2] rfl ?_
  exact k
theorem gX8_oddNow_47 {d : Nat} {Q : Value → zm_S → Prop} {w : zm_S} {a1 : Int32} {a2 : Int32} {a3 : Int32} (k : zm_T zd_H d mX8_oddNow Q 48 [(0, .ref 0), (1, .int a1), (3, .int a3)] [.int a2] w) : zm_T zd_H d mX8_oddNow Q 47 [(0, .ref 0), (1, .int a1), (2, .int a2), (3, .int a3)] [] w := by
  refine zm_iload_n (x := a2) 2 dX8_oddNow_47 rfl rfl ?_
  refine zm_sub [0, 1, 3] rfl ?_
  exact k
theorem gX8_oddNow_48 {d : Nat} {Q : Value → zm_S → Prop} {w : zm_S} {a1 : Int32} {a3 : Int32} {s0 : Int32} (k : zm_T zd_H d mX8_oddNow Q 10 [(0, .ref 0), (1, .int a1), (2, .int s0), (3, .int (a3 + (1 : Int32)))] [] w) : zm_T zd_H d mX8_oddNow Q 48 [(0, .ref 0), (1, .int a1), (3, .int a3)] [.int s0] w := by
  refine zm_istore_n dX8_oddNow_48 rfl (Nat.le_of_ble_eq_true rfl) (ls' := [(2, .int s0), (0, .ref 0), (1, .int a1), (3, .int a3)]) rfl ?_
  refine zm_iinc 3 dX8_oddNow_49 (x := a3) (v := (a3 + (1 : Int32))) rfl rfl (Nat.le_of_ble_eq_true rfl) (ls' := [(3, .int (a3 + (1 : Int32))), (2, .int s0), (0, .ref 0), (1, .int a1)]) rfl ?_
  refine zm_goto 10 dX8_oddNow_52 (by decide) ?_
  refine zm_sub [2, 3, 1, 0] rfl ?_
  exact k
theorem gX8_oddNow_55 {d : Nat} {Q : Value → zm_S → Prop} {w : zm_S} {a1 : Int32} (k : Q (.int a1) w) : zm_T zd_H d mX8_oddNow Q 55 [(1, .int a1)] [] w := by
  refine zm_iload_n (x := a1) 0 dX8_oddNow_55 rfl rfl ?_
  exact zm_ireturn dX8_oddNow_56 rfl k
theorem gX8_odd_0 {d : Nat} {Q : Value → zm_S → Prop} {w : zm_S} {Q' : Value → zm_S → Prop} (hC : zm_C zd_H d mX8_oddNow [.ref 0] w Q') (k : ∀ (r : Int32) (u : zm_S), Q' (.int r) u → zm_T zd_H (d + 1) mX8_odd Q 4 [] [.int r] u) : zm_T zd_H (d + 1) mX8_odd Q 0 [(0, .ref 0)] [] w := by
  refine zm_aload_n (x := 0) 0 dX8_odd_0 rfl rfl ?_
  refine zm_callVi (as := []) (rest := []) dX8_odd_1 rfl mtX8_oddNow lkX8_249 zd_H0 (C := RX8) rfl rfl rfl (Nat.le_of_ble_eq_true rfl) hC rfl (fun r u hq => ?_)
  refine zm_sub [] rfl ?_
  exact k r u hq
theorem gX8_odd_4 {d : Nat} {Q : Value → zm_S → Prop} {w : zm_S} {s0 : Int32} (k : Q (.int s0) w) : zm_T zd_H d mX8_odd Q 4 [] [.int s0] w := by
  exact zm_ireturn dX8_odd_4 rfl k
theorem gX8_withoutOf_0 {d : Nat} {Q : Value → zm_S → Prop} {w : zm_S} {a1 : Int32} {a2 : Int32} {Q' : Value → zm_S → Prop} (hC : zm_C zd_H d mX8_findSays [.ref 0] w Q') (k : ∀ (u : zm_S), Q' .null u → zm_T zd_H (d + 1) mX8_withoutOf Q 4 [(0, .ref 0), (1, .int a1), (2, .int a2)] [] u) : zm_T zd_H (d + 1) mX8_withoutOf Q 0 [(0, .ref 0), (1, .int a1), (2, .int a2)] [] w := by
  refine zm_aload_n (x := 0) 0 dX8_withoutOf_0 rfl rfl ?_
  refine zm_callVv (as := []) (rest := []) dX8_withoutOf_1 rfl mtX8_findSays lkX8_136 zd_H0 (C := RX8) rfl rfl rfl (Nat.le_of_ble_eq_true rfl) hC rfl (fun u hq => ?_)
  exact k u hq
theorem gX8_withoutOf_4 {d : Nat} {Q : Value → zm_S → Prop} {w : zm_S} {a1 : Int32} {a2 : Int32} (kt : ¬ a2 = 0 → zm_T zd_H d mX8_withoutOf Q 13 [(0, .ref 0), (1, .int a1), (2, .int a2)] [.ref 0] w) (kf : a2 = 0 → zm_T zd_H d mX8_withoutOf Q 9 [(0, .ref 0), (1, .int a1), (2, .int a2)] [.ref 0] w) : zm_T zd_H d mX8_withoutOf Q 4 [(0, .ref 0), (1, .int a1), (2, .int a2)] [] w := by
  refine zm_aload_n (x := 0) 0 dX8_withoutOf_4 rfl rfl ?_
  refine zm_iload_n (x := a2) 2 dX8_withoutOf_5 rfl rfl ?_
  refine zm_if_ne 13 dX8_withoutOf_6 (by decide) (fun h => ?_) (fun h => ?_)
  · exact kt h
  · exact kf h
theorem gX8_withoutOf_9 {d : Nat} {Q : Value → zm_S → Prop} {w : zm_S} {a1 : Int32} {a2 : Int32} (k : zm_T zd_H d mX8_withoutOf Q 14 [(0, .ref 0), (1, .int a1), (2, .int a2)] [.int a1, .ref 0] w) : zm_T zd_H d mX8_withoutOf Q 9 [(0, .ref 0), (1, .int a1), (2, .int a2)] [.ref 0] w := by
  refine zm_iload_n (x := a1) 1 dX8_withoutOf_9 rfl rfl ?_
  refine zm_goto 14 dX8_withoutOf_10 (by decide) ?_
  exact k
theorem gX8_withoutOf_13 {d : Nat} {Q : Value → zm_S → Prop} {w : zm_S} {a1 : Int32} {a2 : Int32} (k : zm_T zd_H d mX8_withoutOf Q 14 [(0, .ref 0), (1, .int a1), (2, .int a2)] [.int (-1 : Int32), .ref 0] w) : zm_T zd_H d mX8_withoutOf Q 13 [(0, .ref 0), (1, .int a1), (2, .int a2)] [.ref 0] w := by
  refine zm_iconst dX8_withoutOf_13 (v := (-1 : Int32)) (by decide) ?_
  exact k
theorem gX8_withoutOf_14 {d : Nat} {Q : Value → zm_S → Prop} {w : zm_S} {a1 : Int32} {a2 : Int32} {s0 : Int32} (kt : ¬ a2 = 0 → zm_T zd_H d mX8_withoutOf Q 22 [(0, .ref 0), (1, .int a1)] [.int s0, .ref 0] w) (kf : a2 = 0 → zm_T zd_H d mX8_withoutOf Q 18 [(0, .ref 0)] [.int s0, .ref 0] w) : zm_T zd_H d mX8_withoutOf Q 14 [(0, .ref 0), (1, .int a1), (2, .int a2)] [.int s0, .ref 0] w := by
  refine zm_iload_n (x := a2) 2 dX8_withoutOf_14 rfl rfl ?_
  refine zm_if_ne 22 dX8_withoutOf_15 (by decide) (fun h => ?_) (fun h => ?_)
  · refine zm_sub [0, 1] rfl ?_
    exact kt h
  · refine zm_sub [0] rfl ?_
    exact kf h
theorem gX8_withoutOf_18 {d : Nat} {Q : Value → zm_S → Prop} {w : zm_S} {s0 : Int32} (k : zm_T zd_H d mX8_withoutOf Q 23 [(0, .ref 0)] [.int (-1 : Int32), .int s0, .ref 0] w) : zm_T zd_H d mX8_withoutOf Q 18 [(0, .ref 0)] [.int s0, .ref 0] w := by
  refine zm_iconst dX8_withoutOf_18 (v := (-1 : Int32)) (by decide) ?_
  refine zm_goto 23 dX8_withoutOf_19 (by decide) ?_
  exact k
theorem gX8_withoutOf_22 {d : Nat} {Q : Value → zm_S → Prop} {w : zm_S} {a1 : Int32} {s0 : Int32} (k : zm_T zd_H d mX8_withoutOf Q 23 [(0, .ref 0)] [.int a1, .int s0, .ref 0] w) : zm_T zd_H d mX8_withoutOf Q 22 [(0, .ref 0), (1, .int a1)] [.int s0, .ref 0] w := by
  refine zm_iload_n (x := a1) 1 dX8_withoutOf_22 rfl rfl ?_
  refine zm_sub [0] rfl ?_
  exact k
theorem gX8_withoutOf_23 {d : Nat} {Q : Value → zm_S → Prop} {w : zm_S} {s0 : Int32} {s1 : Int32} {Q' : Value → zm_S → Prop} (hC : zm_C zd_H d mX8_findOrder [.ref 0, .int s1, .int s0] w Q') (k : ∀ (u : zm_S), Q' .null u → zm_T zd_H (d + 1) mX8_withoutOf Q 26 [(0, .ref 0)] [] u) : zm_T zd_H (d + 1) mX8_withoutOf Q 23 [(0, .ref 0)] [.int s0, .int s1, .ref 0] w := by
  refine zm_callVv (as := [.int s1, .int s0]) (rest := []) dX8_withoutOf_23 rfl mtX8_findOrder lkX8_219 zd_H0 (C := RX8) rfl rfl rfl (Nat.le_of_ble_eq_true rfl) hC rfl (fun u hq => ?_)
  exact k u hq
theorem gX8_withoutOf_26 {d : Nat} {Q : Value → zm_S → Prop} {w : zm_S} (k : Q (.int (w.1 0 21)) w) : zm_T zd_H d mX8_withoutOf Q 26 [(0, .ref 0)] [] w := by
  refine zm_aload_n (x := 0) 0 dX8_withoutOf_26 rfl rfl ?_
  refine zm_getf (v := .int (w.1 0 21)) (j := 21) dX8_withoutOf_27 clX8 flX8_207 (Nat.le_of_ble_eq_true rfl) zd_H0 rfl rfl ?_
  exact zm_ireturn dX8_withoutOf_30 rfl k
theorem gX8_without_0 {d : Nat} {Q : Value → zm_S → Prop} {w : zm_S} {a1 : Int32} {a2 : Int32} {Q' : Value → zm_S → Prop} (hC : zm_C zd_H d mX8_isQuestion [.ref 0, .int a1] w Q') (k : ∀ (r : Int32) (u : zm_S), Q' (.int r) u → zm_T zd_H (d + 1) mX8_without Q 5 [(0, .ref 0), (1, .int a1), (2, .int a2)] [.int r] u) : zm_T zd_H (d + 1) mX8_without Q 0 [(0, .ref 0), (1, .int a1), (2, .int a2)] [] w := by
  refine zm_aload_n (x := 0) 0 dX8_without_0 rfl rfl ?_
  refine zm_iload_n (x := a1) 1 dX8_without_1 rfl rfl ?_
  refine zm_callVz (as := [.int a1]) (rest := []) dX8_without_2 rfl mtX8_isQuestion lkX8_176 zd_H0 (C := RX8) rfl rfl rfl (Nat.le_of_ble_eq_true rfl) hC rfl (fun r u hq => ?_)
  exact k r u hq
theorem gX8_without_5 {d : Nat} {Q : Value → zm_S → Prop} {w : zm_S} {a1 : Int32} {a2 : Int32} {s0 : Int32} (kt : s0 = 0 → zm_T zd_H d mX8_without Q 24 [] [] w) (kf : ¬ s0 = 0 → zm_T zd_H d mX8_without Q 8 [(0, .ref 0), (1, .int a1), (2, .int a2)] [] w) : zm_T zd_H d mX8_without Q 5 [(0, .ref 0), (1, .int a1), (2, .int a2)] [.int s0] w := by
  refine zm_if_eq 24 dX8_without_5 (by decide) (fun h => ?_) (fun h => ?_)
  · refine zm_sub [] rfl ?_
    exact kt h
  · exact kf h
theorem gX8_without_8 {d : Nat} {Q : Value → zm_S → Prop} {w : zm_S} {a1 : Int32} {a2 : Int32} {Q' : Value → zm_S → Prop} (hC : zm_C zd_H d mX8_isTwo [.int a2] w Q') (k : ∀ (r : Int32) (u : zm_S), Q' (.int r) u → zm_T zd_H (d + 1) mX8_without Q 12 [(0, .ref 0), (1, .int a1), (2, .int a2)] [.int r] u) : zm_T zd_H (d + 1) mX8_without Q 8 [(0, .ref 0), (1, .int a1), (2, .int a2)] [] w := by
  refine zm_iload_n (x := a2) 2 dX8_without_8 rfl rfl ?_
  refine zm_callSz (as := [.int a2]) (rest := []) dX8_without_9 rfl mtX8_isTwo lkX8_179 rfl (Nat.le_of_ble_eq_true rfl) hC rfl (fun r u hq => ?_)
  exact k r u hq
theorem gX8_without_12 {d : Nat} {Q : Value → zm_S → Prop} {w : zm_S} {a1 : Int32} {a2 : Int32} {s0 : Int32} (kt : s0 = 0 → zm_T zd_H d mX8_without Q 24 [] [] w) (kf : ¬ s0 = 0 → zm_T zd_H d mX8_without Q 15 [(0, .ref 0), (1, .int a1), (2, .int a2)] [] w) : zm_T zd_H d mX8_without Q 12 [(0, .ref 0), (1, .int a1), (2, .int a2)] [.int s0] w := by
  refine zm_if_eq 24 dX8_without_12 (by decide) (fun h => ?_) (fun h => ?_)
  · refine zm_sub [] rfl ?_
    exact kt h
  · exact kf h
theorem gX8_without_15 {d : Nat} {Q : Value → zm_S → Prop} {w : zm_S} {a1 : Int32} {a2 : Int32} {Q' : Value → zm_S → Prop} (hC : zm_C zd_H d mX8_withoutOf [.ref 0, .int a1, .int a2] w Q') (k : ∀ (r : Int32) (u : zm_S), Q' (.int r) u → zm_T zd_H (d + 1) mX8_without Q 21 [] [.int r] u) : zm_T zd_H (d + 1) mX8_without Q 15 [(0, .ref 0), (1, .int a1), (2, .int a2)] [] w := by
  refine zm_aload_n (x := 0) 0 dX8_without_15 rfl rfl ?_
  refine zm_iload_n (x := a1) 1 dX8_without_16 rfl rfl ?_
  refine zm_iload_n (x := a2) 2 dX8_without_17 rfl rfl ?_
  refine zm_callVi (as := [.int a1, .int a2]) (rest := []) dX8_without_18 rfl mtX8_withoutOf lkX8_252 zd_H0 (C := RX8) rfl rfl rfl (Nat.le_of_ble_eq_true rfl) hC rfl (fun r u hq => ?_)
  refine zm_sub [] rfl ?_
  exact k r u hq
theorem gX8_without_21 {d : Nat} {Q : Value → zm_S → Prop} {w : zm_S} {s0 : Int32} (k : Q (.int s0) w) : zm_T zd_H d mX8_without Q 21 [] [.int s0] w := by
  refine zm_goto 26 dX8_without_21 (by decide) ?_
  exact zm_ireturn dX8_without_26 rfl k
theorem gX8_without_24 {d : Nat} {Q : Value → zm_S → Prop} {w : zm_S} (k : Q (.int (-2 : Int32)) w) : zm_T zd_H d mX8_without Q 24 [] [] w := by
  refine zm_bipush dX8_without_24 (v := (-2 : Int32)) (by decide) ?_
  exact zm_ireturn dX8_without_26 rfl k
theorem gX8_worstOf_0 {d : Nat} {Q : Value → zm_S → Prop} {w : zm_S} {a1 : Int32} (k : zm_T zd_H d mX8_worstOf Q 9 [(0, .ref 0), (1, .int a1), (2, .int (-1 : Int32)), (3, .int (10000 : Int32)), (4, .int (0 : Int32))] [] w) : zm_T zd_H d mX8_worstOf Q 0 [(0, .ref 0), (1, .int a1)] [] w := by
  refine zm_iconst dX8_worstOf_0 (v := (-1 : Int32)) (by decide) ?_
  refine zm_istore_n dX8_worstOf_1 rfl (Nat.le_of_ble_eq_true rfl) (ls' := [(2, .int (-1 : Int32)), (0, .ref 0), (1, .int a1)]) rfl ?_
  refine zm_sipush dX8_worstOf_2 (v := (10000 : Int32)) (by decide) ?_
  refine zm_istore_n dX8_worstOf_5 rfl (Nat.le_of_ble_eq_true rfl) (ls' := [(3, .int (10000 : Int32)), (2, .int (-1 : Int32)), (0, .ref 0), (1, .int a1)]) rfl ?_
  refine zm_iconst dX8_worstOf_6 (v := (0 : Int32)) (by decide) ?_
  refine zm_istore dX8_worstOf_7 (Nat.le_of_ble_eq_true rfl) (ls' := [(4, .int (0 : Int32)), (3, .int (10000 : Int32)), (2, .int (-1 : Int32)), (0, .ref 0), (1, .int a1)]) rfl ?_
  refine zm_sub [3, 4, 2, 1, 0] rfl ?_
  exact k
theorem gX8_worstOf_9 {d : Nat} {Q : Value → zm_S → Prop} {w : zm_S} {a1 : Int32} {a2 : Int32} {a3 : Int32} {a4 : Int32} {Q' : Value → zm_S → Prop} (hC : zm_C zd_H d mX8_n [.ref 0] w Q') (k : ∀ (r : Int32) (u : zm_S), Q' (.int r) u → zm_T zd_H (d + 1) mX8_worstOf Q 15 [(0, .ref 0), (1, .int a1), (2, .int a2), (3, .int a3), (4, .int a4)] [.int r, .int a4] u) : zm_T zd_H (d + 1) mX8_worstOf Q 9 [(0, .ref 0), (1, .int a1), (2, .int a2), (3, .int a3), (4, .int a4)] [] w := by
  refine zm_iload (x := a4) 4 dX8_worstOf_9 rfl ?_
  refine zm_aload_n (x := 0) 0 dX8_worstOf_11 rfl rfl ?_
  refine zm_callVi (as := []) (rest := [.int a4]) dX8_worstOf_12 rfl mtX8_n lkX8_111 zd_H0 (C := RX8) rfl rfl rfl (Nat.le_of_ble_eq_true rfl) hC rfl (fun r u hq => ?_)
  exact k r u hq
theorem gX8_worstOf_15 {d : Nat} {Q : Value → zm_S → Prop} {w : zm_S} {a1 : Int32} {a2 : Int32} {a3 : Int32} {a4 : Int32} {s0 : Int32} {s1 : Int32} (kt : s0 ≤ s1 → zm_T zd_H d mX8_worstOf Q 59 [(2, .int a2)] [] w) (kf : ¬ s0 ≤ s1 → zm_T zd_H d mX8_worstOf Q 18 [(0, .ref 0), (1, .int a1), (2, .int a2), (3, .int a3), (4, .int a4)] [] w) : zm_T zd_H d mX8_worstOf Q 15 [(0, .ref 0), (1, .int a1), (2, .int a2), (3, .int a3), (4, .int a4)] [.int s0, .int s1] w := by
  refine zm_icmp_ge 59 dX8_worstOf_15 (by decide) (fun h => ?_) (fun h => ?_)
  · refine zm_sub [2] rfl ?_
    exact kt h
  · exact kf h
theorem gX8_worstOf_18 {d : Nat} {Q : Value → zm_S → Prop} {w : zm_S} {a1 : Int32} {a2 : Int32} {a3 : Int32} {a4 : Int32} {Q' : Value → zm_S → Prop} (hC : zm_C zd_H d mX8_withoutOf [.ref 0, .int a4, .int a1] w Q') (k : ∀ (r : Int32) (u : zm_S), Q' (.int r) u → zm_T zd_H (d + 1) mX8_worstOf Q 25 [(0, .ref 0), (1, .int a1), (2, .int a2), (3, .int a3), (4, .int a4)] [.int r] u) : zm_T zd_H (d + 1) mX8_worstOf Q 18 [(0, .ref 0), (1, .int a1), (2, .int a2), (3, .int a3), (4, .int a4)] [] w := by
  refine zm_aload_n (x := 0) 0 dX8_worstOf_18 rfl rfl ?_
  refine zm_iload (x := a4) 4 dX8_worstOf_19 rfl ?_
  refine zm_iload_n (x := a1) 1 dX8_worstOf_21 rfl rfl ?_
  refine zm_callVi (as := [.int a4, .int a1]) (rest := []) dX8_worstOf_22 rfl mtX8_withoutOf lkX8_252 zd_H0 (C := RX8) rfl rfl rfl (Nat.le_of_ble_eq_true rfl) hC rfl (fun r u hq => ?_)
  exact k r u hq
theorem gX8_worstOf_25 {d : Nat} {Q : Value → zm_S → Prop} {w : zm_S} {a1 : Int32} {a2 : Int32} {a3 : Int32} {a4 : Int32} {s0 : Int32} (kt : a3 ≤ s0 → zm_T zd_H d mX8_worstOf Q 38 [(0, .ref 0), (1, .int a1), (2, .int a2), (3, .int a3), (4, .int a4), (5, .int s0)] [] w) (kf : ¬ a3 ≤ s0 → zm_T zd_H d mX8_worstOf Q 33 [(0, .ref 0), (1, .int a1), (3, .int a3), (4, .int a4), (5, .int s0)] [] w) : zm_T zd_H d mX8_worstOf Q 25 [(0, .ref 0), (1, .int a1), (2, .int a2), (3, .int a3), (4, .int a4)] [.int s0] w := by
  refine zm_istore dX8_worstOf_25 (Nat.le_of_ble_eq_true rfl) (ls' := [(5, .int s0), (0, .ref 0), (1, .int a1), (2, .int a2), (3, .int a3), (4, .int a4)]) rfl ?_
  refine zm_iload (x := s0) 0 dX8_worstOf_27 rfl ?_
  refine zm_iload_n (x := a3) 4 dX8_worstOf_29 rfl rfl ?_
  refine zm_icmp_ge 38 dX8_worstOf_30 (by decide) (fun h => ?_) (fun h => ?_)
  · refine zm_sub [1, 2, 3, 4, 5, 0] rfl ?_
    exact kt h
  · refine zm_sub [1, 2, 4, 5, 0] rfl ?_
    exact kf h
theorem gX8_worstOf_33 {d : Nat} {Q : Value → zm_S → Prop} {w : zm_S} {a1 : Int32} {a3 : Int32} {a4 : Int32} {a5 : Int32} (k : zm_T zd_H d mX8_worstOf Q 39 [(0, .ref 0), (1, .int a1), (3, .int a3), (4, .int a4), (5, .int a5)] [.int a4] w) : zm_T zd_H d mX8_worstOf Q 33 [(0, .ref 0), (1, .int a1), (3, .int a3), (4, .int a4), (5, .int a5)] [] w := by
  refine zm_iload (x := a4) 3 dX8_worstOf_33 rfl ?_
  refine zm_goto 39 dX8_worstOf_35 (by decide) ?_
  exact k
theorem gX8_worstOf_38 {d : Nat} {Q : Value → zm_S → Prop} {w : zm_S} {a1 : Int32} {a2 : Int32} {a3 : Int32} {a4 : Int32} {a5 : Int32} (k : zm_T zd_H d mX8_worstOf Q 39 [(0, .ref 0), (1, .int a1), (3, .int a3), (4, .int a4), (5, .int a5)] [.int a2] w) : zm_T zd_H d mX8_worstOf Q 38 [(0, .ref 0), (1, .int a1), (2, .int a2), (3, .int a3), (4, .int a4), (5, .int a5)] [] w := by
  refine zm_iload_n (x := a2) 2 dX8_worstOf_38 rfl rfl ?_
  refine zm_sub [0, 1, 3, 4, 5] rfl ?_
  exact k
theorem gX8_worstOf_39 {d : Nat} {Q : Value → zm_S → Prop} {w : zm_S} {a1 : Int32} {a3 : Int32} {a4 : Int32} {a5 : Int32} {s0 : Int32} (kt : a3 ≤ a5 → zm_T zd_H d mX8_worstOf Q 51 [(0, .ref 0), (1, .int a1), (2, .int s0), (3, .int a3), (4, .int a4)] [] w) (kf : ¬ a3 ≤ a5 → zm_T zd_H d mX8_worstOf Q 46 [(0, .ref 0), (1, .int a1), (2, .int s0), (4, .int a4), (5, .int a5)] [] w) : zm_T zd_H d mX8_worstOf Q 39 [(0, .ref 0), (1, .int a1), (3, .int a3), (4, .int a4), (5, .int a5)] [.int s0] w := by
  refine zm_istore_n dX8_worstOf_39 rfl (Nat.le_of_ble_eq_true rfl) (ls' := [(2, .int s0), (0, .ref 0), (1, .int a1), (3, .int a3), (4, .int a4), (5, .int a5)]) rfl ?_
  refine zm_iload (x := a5) 5 dX8_worstOf_40 rfl ?_
  refine zm_iload_n (x := a3) 3 dX8_worstOf_42 rfl rfl ?_
  refine zm_icmp_ge 51 dX8_worstOf_43 (by decide) (fun h => ?_) (fun h => ?_)
  · refine zm_sub [1, 2, 0, 3, 4] rfl ?_
    exact kt h
  · refine zm_sub [1, 2, 0, 4, 5] rfl ?_
    exact kf h
theorem gX8_worstOf_46 {d : Nat} {Q : Value → zm_S → Prop} {w : zm_S} {a1 : Int32} {a2 : Int32} {a4 : Int32} {a5 : Int32} (k : zm_T zd_H d mX8_worstOf Q 52 [(0, .ref 0), (1, .int a1), (2, .int a2), (4, .int a4)] [.int a5] w) : zm_T zd_H d mX8_worstOf Q 46 [(0, .ref 0), (1, .int a1), (2, .int a2), (4, .int a4), (5, .int a5)] [] w := by
  refine zm_iload (x := a5) 4 dX8_worstOf_46 rfl ?_
  refine zm_goto 52 dX8_worstOf_48 (by decide) ?_
  refine zm_sub [0, 1, 2, 3] rfl ?_
  exact k
theorem gX8_worstOf_51 {d : Nat} {Q : Value → zm_S → Prop} {w : zm_S} {a1 : Int32} {a2 : Int32} {a3 : Int32} {a4 : Int32} (k : zm_T zd_H d mX8_worstOf Q 52 [(0, .ref 0), (1, .int a1), (2, .int a2), (4, .int a4)] [.int a3] w) : zm_T zd_H d mX8_worstOf Q 51 [(0, .ref 0), (1, .int a1), (2, .int a2), (3, .int a3), (4, .int a4)] [] w := by
  refine zm_iload_n (x := a3) 3 dX8_worstOf_51 rfl rfl ?_
  refine zm_sub [0, 1, 2, 4] rfl ?_
  exact k
theorem gX8_worstOf_52 {d : Nat} {Q : Value → zm_S → Prop} {w : zm_S} {a1 : Int32} {a2 : Int32} {a4 : Int32} {s0 : Int32} (k : zm_T zd_H d mX8_worstOf Q 9 [(0, .ref 0), (1, .int a1), (2, .int a2), (3, .int s0), (4, .int (a4 + (1 : Int32)))] [] w) : zm_T zd_H d mX8_worstOf Q 52 [(0, .ref 0), (1, .int a1), (2, .int a2), (4, .int a4)] [.int s0] w := by
  refine zm_istore_n dX8_worstOf_52 rfl (Nat.le_of_ble_eq_true rfl) (ls' := [(3, .int s0), (0, .ref 0), (1, .int a1), (2, .int a2), (4, .int a4)]) rfl ?_
  refine zm_iinc 4 dX8_worstOf_53 (x := a4) (v := (a4 + (1 : Int32))) rfl rfl (Nat.le_of_ble_eq_true rfl) (ls' := [(4, .int (a4 + (1 : Int32))), (3, .int s0), (0, .ref 0), (1, .int a1), (2, .int a2)]) rfl ?_
  refine zm_goto 9 dX8_worstOf_56 (by decide) ?_
  refine zm_sub [2, 3, 4, 1, 0] rfl ?_
  exact k
theorem gX8_worstOf_59 {d : Nat} {Q : Value → zm_S → Prop} {w : zm_S} {a2 : Int32} (k : Q (.int a2) w) : zm_T zd_H d mX8_worstOf Q 59 [(2, .int a2)] [] w := by
  refine zm_iload_n (x := a2) 0 dX8_worstOf_59 rfl rfl ?_
  exact zm_ireturn dX8_worstOf_60 rfl k
theorem gX8_worst_0 {d : Nat} {Q : Value → zm_S → Prop} {w : zm_S} {a1 : Int32} {Q' : Value → zm_S → Prop} (hC : zm_C zd_H d mX8_isTwo [.int a1] w Q') (k : ∀ (r : Int32) (u : zm_S), Q' (.int r) u → zm_T zd_H (d + 1) mX8_worst Q 4 [(0, .ref 0), (1, .int a1)] [.int r] u) : zm_T zd_H (d + 1) mX8_worst Q 0 [(0, .ref 0), (1, .int a1)] [] w := by
  refine zm_iload_n (x := a1) 1 dX8_worst_0 rfl rfl ?_
  refine zm_callSz (as := [.int a1]) (rest := []) dX8_worst_1 rfl mtX8_isTwo lkX8_179 rfl (Nat.le_of_ble_eq_true rfl) hC rfl (fun r u hq => ?_)
  exact k r u hq
theorem gX8_worst_4 {d : Nat} {Q : Value → zm_S → Prop} {w : zm_S} {a1 : Int32} {s0 : Int32} (kt : s0 = 0 → zm_T zd_H d mX8_worst Q 15 [] [] w) (kf : ¬ s0 = 0 → zm_T zd_H d mX8_worst Q 7 [(0, .ref 0), (1, .int a1)] [] w) : zm_T zd_H d mX8_worst Q 4 [(0, .ref 0), (1, .int a1)] [.int s0] w := by
  refine zm_if_eq 15 dX8_worst_4 (by decide) (fun h => ?_) (fun h => ?_)
  · refine zm_sub [] rfl ?_
    exact kt h
  · exact kf h
theorem gX8_worst_7 {d : Nat} {Q : Value → zm_S → Prop} {w : zm_S} {a1 : Int32} {Q' : Value → zm_S → Prop} (hC : zm_C zd_H d mX8_worstOf [.ref 0, .int a1] w Q') (k : ∀ (r : Int32) (u : zm_S), Q' (.int r) u → zm_T zd_H (d + 1) mX8_worst Q 12 [] [.int r] u) : zm_T zd_H (d + 1) mX8_worst Q 7 [(0, .ref 0), (1, .int a1)] [] w := by
  refine zm_aload_n (x := 0) 0 dX8_worst_7 rfl rfl ?_
  refine zm_iload_n (x := a1) 1 dX8_worst_8 rfl rfl ?_
  refine zm_callVi (as := [.int a1]) (rest := []) dX8_worst_9 rfl mtX8_worstOf lkX8_255 zd_H0 (C := RX8) rfl rfl rfl (Nat.le_of_ble_eq_true rfl) hC rfl (fun r u hq => ?_)
  refine zm_sub [] rfl ?_
  exact k r u hq
theorem gX8_worst_12 {d : Nat} {Q : Value → zm_S → Prop} {w : zm_S} {s0 : Int32} (k : Q (.int s0) w) : zm_T zd_H d mX8_worst Q 12 [] [.int s0] w := by
  refine zm_goto 17 dX8_worst_12 (by decide) ?_
  exact zm_ireturn dX8_worst_17 rfl k
theorem gX8_worst_15 {d : Nat} {Q : Value → zm_S → Prop} {w : zm_S} (k : Q (.int (-2 : Int32)) w) : zm_T zd_H d mX8_worst Q 15 [] [] w := by
  refine zm_bipush dX8_worst_15 (v := (-2 : Int32)) (by decide) ?_
  exact zm_ireturn dX8_worst_17 rfl k
theorem gX8_statesOf_0 {d : Nat} {Q : Value → zm_S → Prop} {w : zm_S} {a1 : Int32} {Q' : Value → zm_S → Prop} (hC : zm_C zd_H d mX8_findNeeds [.ref 0] w Q') (k : ∀ (u : zm_S), Q' .null u → zm_T zd_H (d + 1) mX8_statesOf Q 4 [(0, .ref 0), (1, .int a1)] [] u) : zm_T zd_H (d + 1) mX8_statesOf Q 0 [(0, .ref 0), (1, .int a1)] [] w := by
  refine zm_aload_n (x := 0) 0 dX8_statesOf_0 rfl rfl ?_
  refine zm_callVv (as := []) (rest := []) dX8_statesOf_1 rfl mtX8_findNeeds lkX8_258 zd_H0 (C := RX8) rfl rfl rfl (Nat.le_of_ble_eq_true rfl) hC rfl (fun u hq => ?_)
  exact k u hq
theorem gX8_statesOf_4 {d : Nat} {Q : Value → zm_S → Prop} {w : zm_S} {a1 : Int32} (k : zm_T zd_H d mX8_statesOf Q 8 [(0, .ref 0), (1, .int a1), (2, .int (0 : Int32)), (3, .int (0 : Int32))] [] w) : zm_T zd_H d mX8_statesOf Q 4 [(0, .ref 0), (1, .int a1)] [] w := by
  refine zm_iconst dX8_statesOf_4 (v := (0 : Int32)) (by decide) ?_
  refine zm_istore_n dX8_statesOf_5 rfl (Nat.le_of_ble_eq_true rfl) (ls' := [(2, .int (0 : Int32)), (0, .ref 0), (1, .int a1)]) rfl ?_
  refine zm_iconst dX8_statesOf_6 (v := (0 : Int32)) (by decide) ?_
  refine zm_istore_n dX8_statesOf_7 rfl (Nat.le_of_ble_eq_true rfl) (ls' := [(3, .int (0 : Int32)), (2, .int (0 : Int32)), (0, .ref 0), (1, .int a1)]) rfl ?_
  refine zm_sub [2, 3, 1, 0] rfl ?_
  exact k
theorem gX8_statesOf_8 {d : Nat} {Q : Value → zm_S → Prop} {w : zm_S} {a1 : Int32} {a2 : Int32} {a3 : Int32} {Q' : Value → zm_S → Prop} (hC : zm_C zd_H d mX8_whole [.ref 0] w Q') (k : ∀ (r : Int32) (u : zm_S), Q' (.int r) u → zm_T zd_H (d + 1) mX8_statesOf Q 13 [(0, .ref 0), (1, .int a1), (2, .int a2), (3, .int a3)] [.int r, .int a3] u) : zm_T zd_H (d + 1) mX8_statesOf Q 8 [(0, .ref 0), (1, .int a1), (2, .int a2), (3, .int a3)] [] w := by
  refine zm_iload_n (x := a3) 3 dX8_statesOf_8 rfl rfl ?_
  refine zm_aload_n (x := 0) 0 dX8_statesOf_9 rfl rfl ?_
  refine zm_callVi (as := []) (rest := [.int a3]) dX8_statesOf_10 rfl mtX8_whole lkX8_228 zd_H0 (C := RX8) rfl rfl rfl (Nat.le_of_ble_eq_true rfl) hC rfl (fun r u hq => ?_)
  exact k r u hq
theorem gX8_statesOf_13 {d : Nat} {Q : Value → zm_S → Prop} {w : zm_S} {a1 : Int32} {a2 : Int32} {a3 : Int32} {s0 : Int32} {s1 : Int32} (kt : s0 < s1 → zm_T zd_H d mX8_statesOf Q 40 [(1, .int a1), (2, .int a2)] [] w) (kf : ¬ s0 < s1 → zm_T zd_H d mX8_statesOf Q 16 [(0, .ref 0), (1, .int a1), (2, .int a2), (3, .int a3)] [] w) : zm_T zd_H d mX8_statesOf Q 13 [(0, .ref 0), (1, .int a1), (2, .int a2), (3, .int a3)] [.int s0, .int s1] w := by
  refine zm_icmp_gt 40 dX8_statesOf_13 (by decide) (fun h => ?_) (fun h => ?_)
  · refine zm_sub [1, 2] rfl ?_
    exact kt h
  · exact kf h
theorem gX8_statesOf_16 {d : Nat} {Q : Value → zm_S → Prop} {w : zm_S} {a1 : Int32} {a2 : Int32} {a3 : Int32} {Q' : Value → zm_S → Prop} (hC : zm_C zd_H d mX8_isState [.ref 0, .int a3] w Q') (k : ∀ (r : Int32) (u : zm_S), Q' (.int r) u → zm_T zd_H (d + 1) mX8_statesOf Q 21 [(0, .ref 0), (1, .int a1), (2, .int a2), (3, .int a3)] [.int r] u) : zm_T zd_H (d + 1) mX8_statesOf Q 16 [(0, .ref 0), (1, .int a1), (2, .int a2), (3, .int a3)] [] w := by
  refine zm_aload_n (x := 0) 0 dX8_statesOf_16 rfl rfl ?_
  refine zm_iload_n (x := a3) 3 dX8_statesOf_17 rfl rfl ?_
  refine zm_callVz (as := [.int a3]) (rest := []) dX8_statesOf_18 rfl mtX8_isState lkX8_261 zd_H0 (C := RX8) rfl rfl rfl (Nat.le_of_ble_eq_true rfl) hC rfl (fun r u hq => ?_)
  exact k r u hq
theorem gX8_statesOf_21 {d : Nat} {Q : Value → zm_S → Prop} {w : zm_S} {a1 : Int32} {a2 : Int32} {a3 : Int32} {s0 : Int32} (kt : s0 = 0 → zm_T zd_H d mX8_statesOf Q 34 [(0, .ref 0), (1, .int a1), (2, .int a2), (3, .int a3)] [] w) (kf : ¬ s0 = 0 → zm_T zd_H d mX8_statesOf Q 24 [(0, .ref 0), (1, .int a1), (2, .int a2), (3, .int a3)] [] w) : zm_T zd_H d mX8_statesOf Q 21 [(0, .ref 0), (1, .int a1), (2, .int a2), (3, .int a3)] [.int s0] w := by
  refine zm_if_eq 34 dX8_statesOf_21 (by decide) (fun h => ?_) (fun h => ?_)
  · exact kt h
  · exact kf h
theorem gX8_statesOf_24 {d : Nat} {Q : Value → zm_S → Prop} {w : zm_S} {a1 : Int32} {a2 : Int32} {a3 : Int32} (kt : ¬ a2 = a1 → zm_T zd_H d mX8_statesOf Q 31 [(0, .ref 0), (1, .int a1), (2, .int a2), (3, .int a3)] [] w) (kf : a2 = a1 → zm_T zd_H d mX8_statesOf Q 29 [(3, .int a3)] [] w) : zm_T zd_H d mX8_statesOf Q 24 [(0, .ref 0), (1, .int a1), (2, .int a2), (3, .int a3)] [] w := by
  refine zm_iload_n (x := a2) 2 dX8_statesOf_24 rfl rfl ?_
  refine zm_iload_n (x := a1) 1 dX8_statesOf_25 rfl rfl ?_
  refine zm_icmp_ne 31 dX8_statesOf_26 (by decide) (fun h => ?_) (fun h => ?_)
  · exact kt h
  · refine zm_sub [3] rfl ?_
    exact kf h
theorem gX8_statesOf_29 {d : Nat} {Q : Value → zm_S → Prop} {w : zm_S} {a3 : Int32} (k : Q (.int a3) w) : zm_T zd_H d mX8_statesOf Q 29 [(3, .int a3)] [] w := by
  refine zm_iload_n (x := a3) 0 dX8_statesOf_29 rfl rfl ?_
  exact zm_ireturn dX8_statesOf_30 rfl k
theorem gX8_statesOf_31 {d : Nat} {Q : Value → zm_S → Prop} {w : zm_S} {a1 : Int32} {a2 : Int32} {a3 : Int32} (k : zm_T zd_H d mX8_statesOf Q 34 [(0, .ref 0), (1, .int a1), (2, .int (a2 + (1 : Int32))), (3, .int a3)] [] w) : zm_T zd_H d mX8_statesOf Q 31 [(0, .ref 0), (1, .int a1), (2, .int a2), (3, .int a3)] [] w := by
  refine zm_iinc 2 dX8_statesOf_31 (x := a2) (v := (a2 + (1 : Int32))) rfl rfl (Nat.le_of_ble_eq_true rfl) (ls' := [(2, .int (a2 + (1 : Int32))), (0, .ref 0), (1, .int a1), (3, .int a3)]) rfl ?_
  refine zm_sub [1, 2, 0, 3] rfl ?_
  exact k
theorem gX8_statesOf_34 {d : Nat} {Q : Value → zm_S → Prop} {w : zm_S} {a1 : Int32} {a2 : Int32} {a3 : Int32} (k : zm_T zd_H d mX8_statesOf Q 8 [(0, .ref 0), (1, .int a1), (2, .int a2), (3, .int (a3 + (1 : Int32)))] [] w) : zm_T zd_H d mX8_statesOf Q 34 [(0, .ref 0), (1, .int a1), (2, .int a2), (3, .int a3)] [] w := by
  refine zm_iinc 3 dX8_statesOf_34 (x := a3) (v := (a3 + (1 : Int32))) rfl rfl (Nat.le_of_ble_eq_true rfl) (ls' := [(3, .int (a3 + (1 : Int32))), (0, .ref 0), (1, .int a1), (2, .int a2)]) rfl ?_
  refine zm_goto 8 dX8_statesOf_37 (by decide) ?_
  refine zm_sub [1, 2, 3, 0] rfl ?_
  exact k
theorem gX8_statesOf_40 {d : Nat} {Q : Value → zm_S → Prop} {w : zm_S} {a1 : Int32} {a2 : Int32} (kt : ¬ a1 = (-1 : Int32) → zm_T zd_H d mX8_statesOf Q 49 [] [] w) (kf : a1 = (-1 : Int32) → zm_T zd_H d mX8_statesOf Q 45 [(2, .int a2)] [] w) : zm_T zd_H d mX8_statesOf Q 40 [(1, .int a1), (2, .int a2)] [] w := by
  refine zm_iload_n (x := a1) 0 dX8_statesOf_40 rfl rfl ?_
  refine zm_iconst dX8_statesOf_41 (v := (-1 : Int32)) (by decide) ?_
  refine zm_icmp_ne 49 dX8_statesOf_42 (by decide) (fun h => ?_) (fun h => ?_)
  · refine zm_sub [] rfl ?_
    exact kt h
  · refine zm_sub [1] rfl ?_
    exact kf h
theorem gX8_statesOf_45 {d : Nat} {Q : Value → zm_S → Prop} {w : zm_S} {a2 : Int32} (k : Q (.int a2) w) : zm_T zd_H d mX8_statesOf Q 45 [(2, .int a2)] [] w := by
  refine zm_iload_n (x := a2) 0 dX8_statesOf_45 rfl rfl ?_
  refine zm_goto 50 dX8_statesOf_46 (by decide) ?_
  exact zm_ireturn dX8_statesOf_50 rfl k
theorem gX8_statesOf_49 {d : Nat} {Q : Value → zm_S → Prop} {w : zm_S} (k : Q (.int (-1 : Int32)) w) : zm_T zd_H d mX8_statesOf Q 49 [] [] w := by
  refine zm_iconst dX8_statesOf_49 (v := (-1 : Int32)) (by decide) ?_
  exact zm_ireturn dX8_statesOf_50 rfl k
theorem gX8_states_0 {d : Nat} {Q : Value → zm_S → Prop} {w : zm_S} {a1 : Int32} (kt : a1 < (-1 : Int32) → zm_T zd_H d mX8_states Q 13 [] [] w) (kf : ¬ a1 < (-1 : Int32) → zm_T zd_H d mX8_states Q 5 [(0, .ref 0), (1, .int a1)] [] w) : zm_T zd_H d mX8_states Q 0 [(0, .ref 0), (1, .int a1)] [] w := by
  refine zm_iload_n (x := a1) 1 dX8_states_0 rfl rfl ?_
  refine zm_iconst dX8_states_1 (v := (-1 : Int32)) (by decide) ?_
  refine zm_icmp_lt 13 dX8_states_2 (by decide) (fun h => ?_) (fun h => ?_)
  · refine zm_sub [] rfl ?_
    exact kt h
  · exact kf h
theorem gX8_states_5 {d : Nat} {Q : Value → zm_S → Prop} {w : zm_S} {a1 : Int32} {Q' : Value → zm_S → Prop} (hC : zm_C zd_H d mX8_statesOf [.ref 0, .int a1] w Q') (k : ∀ (r : Int32) (u : zm_S), Q' (.int r) u → zm_T zd_H (d + 1) mX8_states Q 10 [] [.int r] u) : zm_T zd_H (d + 1) mX8_states Q 5 [(0, .ref 0), (1, .int a1)] [] w := by
  refine zm_aload_n (x := 0) 0 dX8_states_5 rfl rfl ?_
  refine zm_iload_n (x := a1) 1 dX8_states_6 rfl rfl ?_
  refine zm_callVi (as := [.int a1]) (rest := []) dX8_states_7 rfl mtX8_statesOf lkX8_264 zd_H0 (C := RX8) rfl rfl rfl (Nat.le_of_ble_eq_true rfl) hC rfl (fun r u hq => ?_)
  refine zm_sub [] rfl ?_
  exact k r u hq
theorem gX8_states_10 {d : Nat} {Q : Value → zm_S → Prop} {w : zm_S} {s0 : Int32} (k : Q (.int s0) w) : zm_T zd_H d mX8_states Q 10 [] [.int s0] w := by
  refine zm_goto 15 dX8_states_10 (by decide) ?_
  exact zm_ireturn dX8_states_15 rfl k
theorem gX8_states_13 {d : Nat} {Q : Value → zm_S → Prop} {w : zm_S} (k : Q (.int (-2 : Int32)) w) : zm_T zd_H d mX8_states Q 13 [] [] w := by
  refine zm_bipush dX8_states_13 (v := (-2 : Int32)) (by decide) ?_
  exact zm_ireturn dX8_states_15 rfl k
theorem gX8_belongsOf_0 {d : Nat} {Q : Value → zm_S → Prop} {w : zm_S} {a1 : Int32} {a2 : Int32} {Q' : Value → zm_S → Prop} (hC : zm_C zd_H d mX8_findNeeds [.ref 0] w Q') (k : ∀ (u : zm_S), Q' .null u → zm_T zd_H (d + 1) mX8_belongsOf Q 4 [(0, .ref 0), (1, .int a1), (2, .int a2)] [] u) : zm_T zd_H (d + 1) mX8_belongsOf Q 0 [(0, .ref 0), (1, .int a1), (2, .int a2)] [] w := by
  refine zm_aload_n (x := 0) 0 dX8_belongsOf_0 rfl rfl ?_
  refine zm_callVv (as := []) (rest := []) dX8_belongsOf_1 rfl mtX8_findNeeds lkX8_258 zd_H0 (C := RX8) rfl rfl rfl (Nat.le_of_ble_eq_true rfl) hC rfl (fun u hq => ?_)
  exact k u hq
theorem gX8_belongsOf_4 {d : Nat} {Q : Value → zm_S → Prop} {w : zm_S} {a1 : Int32} {a2 : Int32} (k : zm_T zd_H d mX8_belongsOf Q 17 [(0, .ref 0), (1, .int a1), (2, .int a2), (3, .int (-1 : Int32)), (4, .int (10000 : Int32)), (5, .int (0 : Int32)), (6, .int (0 : Int32))] [] w) : zm_T zd_H d mX8_belongsOf Q 4 [(0, .ref 0), (1, .int a1), (2, .int a2)] [] w := by
  refine zm_iconst dX8_belongsOf_4 (v := (-1 : Int32)) (by decide) ?_
  refine zm_istore_n dX8_belongsOf_5 rfl (Nat.le_of_ble_eq_true rfl) (ls' := [(3, .int (-1 : Int32)), (0, .ref 0), (1, .int a1), (2, .int a2)]) rfl ?_
  refine zm_sipush dX8_belongsOf_6 (v := (10000 : Int32)) (by decide) ?_
  refine zm_istore dX8_belongsOf_9 (Nat.le_of_ble_eq_true rfl) (ls' := [(4, .int (10000 : Int32)), (3, .int (-1 : Int32)), (0, .ref 0), (1, .int a1), (2, .int a2)]) rfl ?_
  refine zm_iconst dX8_belongsOf_11 (v := (0 : Int32)) (by decide) ?_
  refine zm_istore dX8_belongsOf_12 (Nat.le_of_ble_eq_true rfl) (ls' := [(5, .int (0 : Int32)), (4, .int (10000 : Int32)), (3, .int (-1 : Int32)), (0, .ref 0), (1, .int a1), (2, .int a2)]) rfl ?_
  refine zm_iconst dX8_belongsOf_14 (v := (0 : Int32)) (by decide) ?_
  refine zm_istore dX8_belongsOf_15 (Nat.le_of_ble_eq_true rfl) (ls' := [(6, .int (0 : Int32)), (5, .int (0 : Int32)), (4, .int (10000 : Int32)), (3, .int (-1 : Int32)), (0, .ref 0), (1, .int a1), (2, .int a2)]) rfl ?_
  refine zm_sub [4, 5, 6, 3, 2, 1, 0] rfl ?_
  exact k
theorem gX8_belongsOf_17 {d : Nat} {Q : Value → zm_S → Prop} {w : zm_S} {a1 : Int32} {a2 : Int32} {a3 : Int32} {a4 : Int32} {a5 : Int32} {a6 : Int32} {Q' : Value → zm_S → Prop} (hC : zm_C zd_H d mX8_whole [.ref 0] w Q') (k : ∀ (r : Int32) (u : zm_S), Q' (.int r) u → zm_T zd_H (d + 1) mX8_belongsOf Q 23 [(0, .ref 0), (1, .int a1), (2, .int a2), (3, .int a3), (4, .int a4), (5, .int a5), (6, .int a6)] [.int r, .int a6] u) : zm_T zd_H (d + 1) mX8_belongsOf Q 17 [(0, .ref 0), (1, .int a1), (2, .int a2), (3, .int a3), (4, .int a4), (5, .int a5), (6, .int a6)] [] w := by
  refine zm_iload (x := a6) 6 dX8_belongsOf_17 rfl ?_
  refine zm_aload_n (x := 0) 0 dX8_belongsOf_19 rfl rfl ?_
  refine zm_callVi (as := []) (rest := [.int a6]) dX8_belongsOf_20 rfl mtX8_whole lkX8_228 zd_H0 (C := RX8) rfl rfl rfl (Nat.le_of_ble_eq_true rfl) hC rfl (fun r u hq => ?_)
  exact k r u hq
theorem gX8_belongsOf_23 {d : Nat} {Q : Value → zm_S → Prop} {w : zm_S} {a1 : Int32} {a2 : Int32} {a3 : Int32} {a4 : Int32} {a5 : Int32} {a6 : Int32} {s0 : Int32} {s1 : Int32} (kt : s0 < s1 → zm_T zd_H d mX8_belongsOf Q 109 [(2, .int a2), (3, .int a3), (4, .int a4), (5, .int a5)] [] w) (kf : ¬ s0 < s1 → zm_T zd_H d mX8_belongsOf Q 26 [(0, .ref 0), (1, .int a1), (2, .int a2), (3, .int a3), (4, .int a4), (5, .int a5), (6, .int a6)] [] w) : zm_T zd_H d mX8_belongsOf Q 23 [(0, .ref 0), (1, .int a1), (2, .int a2), (3, .int a3), (4, .int a4), (5, .int a5), (6, .int a6)] [.int s0, .int s1] w := by
  refine zm_icmp_gt 109 dX8_belongsOf_23 (by decide) (fun h => ?_) (fun h => ?_)
  · refine zm_sub [2, 3, 4, 5] rfl ?_
    exact kt h
  · exact kf h
theorem gX8_belongsOf_26 {d : Nat} {Q : Value → zm_S → Prop} {w : zm_S} {a1 : Int32} {a2 : Int32} {a3 : Int32} {a4 : Int32} {a5 : Int32} {a6 : Int32} {Q' : Value → zm_S → Prop} (hC : zm_C zd_H d mX8_isState [.ref 0, .int a6] w Q') (k : ∀ (r : Int32) (u : zm_S), Q' (.int r) u → zm_T zd_H (d + 1) mX8_belongsOf Q 32 [(0, .ref 0), (1, .int a1), (2, .int a2), (3, .int a3), (4, .int a4), (5, .int a5), (6, .int a6)] [.int r] u) : zm_T zd_H (d + 1) mX8_belongsOf Q 26 [(0, .ref 0), (1, .int a1), (2, .int a2), (3, .int a3), (4, .int a4), (5, .int a5), (6, .int a6)] [] w := by
  refine zm_aload_n (x := 0) 0 dX8_belongsOf_26 rfl rfl ?_
  refine zm_iload (x := a6) 6 dX8_belongsOf_27 rfl ?_
  refine zm_callVz (as := [.int a6]) (rest := []) dX8_belongsOf_29 rfl mtX8_isState lkX8_261 zd_H0 (C := RX8) rfl rfl rfl (Nat.le_of_ble_eq_true rfl) hC rfl (fun r u hq => ?_)
  exact k r u hq
theorem gX8_belongsOf_32 {d : Nat} {Q : Value → zm_S → Prop} {w : zm_S} {a1 : Int32} {a2 : Int32} {a3 : Int32} {a4 : Int32} {a5 : Int32} {a6 : Int32} {s0 : Int32} (kt : s0 = 0 → zm_T zd_H d mX8_belongsOf Q 103 [(0, .ref 0), (1, .int a1), (2, .int a2), (3, .int a3), (4, .int a4), (5, .int a5), (6, .int a6)] [] w) (kf : ¬ s0 = 0 → zm_T zd_H d mX8_belongsOf Q 35 [(0, .ref 0), (1, .int a1), (2, .int a2), (3, .int a3), (4, .int a4), (5, .int a5), (6, .int a6)] [] w) : zm_T zd_H d mX8_belongsOf Q 32 [(0, .ref 0), (1, .int a1), (2, .int a2), (3, .int a3), (4, .int a4), (5, .int a5), (6, .int a6)] [.int s0] w := by
  refine zm_if_eq 103 dX8_belongsOf_32 (by decide) (fun h => ?_) (fun h => ?_)
  · exact kt h
  · exact kf h
theorem gX8_belongsOf_35 {d : Nat} {Q : Value → zm_S → Prop} {w : zm_S} {a1 : Int32} {a2 : Int32} {a3 : Int32} {a4 : Int32} {a5 : Int32} {a6 : Int32} {Q' : Value → zm_S → Prop} (hC : zm_C zd_H d mX8_errorsOf [.ref 0, .int a1, .int a6] w Q') (k : ∀ (r : Int32) (u : zm_S), Q' (.int r) u → zm_T zd_H (d + 1) mX8_belongsOf Q 42 [(0, .ref 0), (1, .int a1), (2, .int a2), (3, .int a3), (4, .int a4), (5, .int a5), (6, .int a6)] [.int r] u) : zm_T zd_H (d + 1) mX8_belongsOf Q 35 [(0, .ref 0), (1, .int a1), (2, .int a2), (3, .int a3), (4, .int a4), (5, .int a5), (6, .int a6)] [] w := by
  refine zm_aload_n (x := 0) 0 dX8_belongsOf_35 rfl rfl ?_
  refine zm_iload_n (x := a1) 1 dX8_belongsOf_36 rfl rfl ?_
  refine zm_iload (x := a6) 6 dX8_belongsOf_37 rfl ?_
  refine zm_callVi (as := [.int a1, .int a6]) (rest := []) dX8_belongsOf_39 rfl mtX8_errorsOf lkX8_197 zd_H0 (C := RX8) rfl rfl rfl (Nat.le_of_ble_eq_true rfl) hC rfl (fun r u hq => ?_)
  exact k r u hq
theorem gX8_belongsOf_42 {d : Nat} {Q : Value → zm_S → Prop} {w : zm_S} {a1 : Int32} {a2 : Int32} {a3 : Int32} {a4 : Int32} {a5 : Int32} {a6 : Int32} {s0 : Int32} (kt : a4 ≤ s0 → zm_T zd_H d mX8_belongsOf Q 56 [(0, .ref 0), (1, .int a1), (2, .int a2), (3, .int a3), (4, .int a4), (5, .int a5), (6, .int a6), (7, .int s0)] [] w) (kf : ¬ a4 ≤ s0 → zm_T zd_H d mX8_belongsOf Q 51 [(0, .ref 0), (1, .int a1), (2, .int a2), (4, .int a4), (5, .int a5), (6, .int a6), (7, .int s0)] [] w) : zm_T zd_H d mX8_belongsOf Q 42 [(0, .ref 0), (1, .int a1), (2, .int a2), (3, .int a3), (4, .int a4), (5, .int a5), (6, .int a6)] [.int s0] w := by
  refine zm_istore dX8_belongsOf_42 (Nat.le_of_ble_eq_true rfl) (ls' := [(7, .int s0), (0, .ref 0), (1, .int a1), (2, .int a2), (3, .int a3), (4, .int a4), (5, .int a5), (6, .int a6)]) rfl ?_
  refine zm_iload (x := s0) 0 dX8_belongsOf_44 rfl ?_
  refine zm_iload (x := a4) 5 dX8_belongsOf_46 rfl ?_
  refine zm_icmp_ge 56 dX8_belongsOf_48 (by decide) (fun h => ?_) (fun h => ?_)
  · refine zm_sub [1, 2, 3, 4, 5, 6, 7, 0] rfl ?_
    exact kt h
  · refine zm_sub [1, 2, 3, 5, 6, 7, 0] rfl ?_
    exact kf h
theorem gX8_belongsOf_51 {d : Nat} {Q : Value → zm_S → Prop} {w : zm_S} {a1 : Int32} {a2 : Int32} {a4 : Int32} {a5 : Int32} {a6 : Int32} {a7 : Int32} (k : zm_T zd_H d mX8_belongsOf Q 57 [(0, .ref 0), (1, .int a1), (2, .int a2), (4, .int a4), (5, .int a5), (6, .int a6), (7, .int a7)] [.int a6] w) : zm_T zd_H d mX8_belongsOf Q 51 [(0, .ref 0), (1, .int a1), (2, .int a2), (4, .int a4), (5, .int a5), (6, .int a6), (7, .int a7)] [] w := by
  refine zm_iload (x := a6) 5 dX8_belongsOf_51 rfl ?_
  refine zm_goto 57 dX8_belongsOf_53 (by decide) ?_
  exact k
theorem gX8_belongsOf_56 {d : Nat} {Q : Value → zm_S → Prop} {w : zm_S} {a1 : Int32} {a2 : Int32} {a3 : Int32} {a4 : Int32} {a5 : Int32} {a6 : Int32} {a7 : Int32} (k : zm_T zd_H d mX8_belongsOf Q 57 [(0, .ref 0), (1, .int a1), (2, .int a2), (4, .int a4), (5, .int a5), (6, .int a6), (7, .int a7)] [.int a3] w) : zm_T zd_H d mX8_belongsOf Q 56 [(0, .ref 0), (1, .int a1), (2, .int a2), (3, .int a3), (4, .int a4), (5, .int a5), (6, .int a6), (7, .int a7)] [] w := by
  refine zm_iload_n (x := a3) 3 dX8_belongsOf_56 rfl rfl ?_
  refine zm_sub [0, 1, 2, 4, 5, 6, 7] rfl ?_
  exact k
theorem gX8_belongsOf_57 {d : Nat} {Q : Value → zm_S → Prop} {w : zm_S} {a1 : Int32} {a2 : Int32} {a4 : Int32} {a5 : Int32} {a6 : Int32} {a7 : Int32} {s0 : Int32} (kt : a4 ≤ a7 → zm_T zd_H d mX8_belongsOf Q 69 [(0, .ref 0), (1, .int a1), (2, .int a2), (3, .int s0), (4, .int a4), (5, .int a5), (6, .int a6), (7, .int a7)] [] w) (kf : ¬ a4 ≤ a7 → zm_T zd_H d mX8_belongsOf Q 65 [(0, .ref 0), (1, .int a1), (2, .int a2), (3, .int s0), (4, .int a4), (6, .int a6), (7, .int a7)] [] w) : zm_T zd_H d mX8_belongsOf Q 57 [(0, .ref 0), (1, .int a1), (2, .int a2), (4, .int a4), (5, .int a5), (6, .int a6), (7, .int a7)] [.int s0] w := by
  refine zm_istore_n dX8_belongsOf_57 rfl (Nat.le_of_ble_eq_true rfl) (ls' := [(3, .int s0), (0, .ref 0), (1, .int a1), (2, .int a2), (4, .int a4), (5, .int a5), (6, .int a6), (7, .int a7)]) rfl ?_
  refine zm_iload (x := a7) 7 dX8_belongsOf_58 rfl ?_
  refine zm_iload (x := a4) 4 dX8_belongsOf_60 rfl ?_
  refine zm_icmp_ge 69 dX8_belongsOf_62 (by decide) (fun h => ?_) (fun h => ?_)
  · refine zm_sub [1, 2, 3, 0, 4, 5, 6, 7] rfl ?_
    exact kt h
  · refine zm_sub [1, 2, 3, 0, 4, 6, 7] rfl ?_
    exact kf h
theorem gX8_belongsOf_65 {d : Nat} {Q : Value → zm_S → Prop} {w : zm_S} {a1 : Int32} {a2 : Int32} {a3 : Int32} {a4 : Int32} {a6 : Int32} {a7 : Int32} (k : zm_T zd_H d mX8_belongsOf Q 85 [(0, .ref 0), (1, .int a1), (2, .int a2), (3, .int a3), (4, .int a4), (6, .int a6), (7, .int a7)] [.int (1 : Int32)] w) : zm_T zd_H d mX8_belongsOf Q 65 [(0, .ref 0), (1, .int a1), (2, .int a2), (3, .int a3), (4, .int a4), (6, .int a6), (7, .int a7)] [] w := by
  refine zm_iconst dX8_belongsOf_65 (v := (1 : Int32)) (by decide) ?_
  refine zm_goto 85 dX8_belongsOf_66 (by decide) ?_
  exact k
theorem gX8_belongsOf_69 {d : Nat} {Q : Value → zm_S → Prop} {w : zm_S} {a1 : Int32} {a2 : Int32} {a3 : Int32} {a4 : Int32} {a5 : Int32} {a6 : Int32} {a7 : Int32} (kt : ¬ a7 = a4 → zm_T zd_H d mX8_belongsOf Q 83 [(0, .ref 0), (1, .int a1), (2, .int a2), (3, .int a3), (4, .int a4), (5, .int a5), (6, .int a6), (7, .int a7)] [] w) (kf : a7 = a4 → zm_T zd_H d mX8_belongsOf Q 76 [(0, .ref 0), (1, .int a1), (2, .int a2), (3, .int a3), (4, .int a4), (5, .int a5), (6, .int a6), (7, .int a7)] [] w) : zm_T zd_H d mX8_belongsOf Q 69 [(0, .ref 0), (1, .int a1), (2, .int a2), (3, .int a3), (4, .int a4), (5, .int a5), (6, .int a6), (7, .int a7)] [] w := by
  refine zm_iload (x := a7) 7 dX8_belongsOf_69 rfl ?_
  refine zm_iload (x := a4) 4 dX8_belongsOf_71 rfl ?_
  refine zm_icmp_ne 83 dX8_belongsOf_73 (by decide) (fun h => ?_) (fun h => ?_)
  · exact kt h
  · exact kf h
theorem gX8_belongsOf_76 {d : Nat} {Q : Value → zm_S → Prop} {w : zm_S} {a1 : Int32} {a2 : Int32} {a3 : Int32} {a4 : Int32} {a5 : Int32} {a6 : Int32} {a7 : Int32} (k : zm_T zd_H d mX8_belongsOf Q 85 [(0, .ref 0), (1, .int a1), (2, .int a2), (3, .int a3), (4, .int a4), (6, .int a6), (7, .int a7)] [.int (a5 + (1 : Int32))] w) : zm_T zd_H d mX8_belongsOf Q 76 [(0, .ref 0), (1, .int a1), (2, .int a2), (3, .int a3), (4, .int a4), (5, .int a5), (6, .int a6), (7, .int a7)] [] w := by
  refine zm_iload (x := a5) 5 dX8_belongsOf_76 rfl ?_
  refine zm_iconst dX8_belongsOf_78 (v := (1 : Int32)) (by decide) ?_
  refine zm_iadd dX8_belongsOf_79 ?_
  refine zm_goto 85 dX8_belongsOf_80 (by decide) ?_
  refine zm_sub [0, 1, 2, 3, 4, 6, 7] rfl ?_
  exact k
theorem gX8_belongsOf_83 {d : Nat} {Q : Value → zm_S → Prop} {w : zm_S} {a1 : Int32} {a2 : Int32} {a3 : Int32} {a4 : Int32} {a5 : Int32} {a6 : Int32} {a7 : Int32} (k : zm_T zd_H d mX8_belongsOf Q 85 [(0, .ref 0), (1, .int a1), (2, .int a2), (3, .int a3), (4, .int a4), (6, .int a6), (7, .int a7)] [.int a5] w) : zm_T zd_H d mX8_belongsOf Q 83 [(0, .ref 0), (1, .int a1), (2, .int a2), (3, .int a3), (4, .int a4), (5, .int a5), (6, .int a6), (7, .int a7)] [] w := by
  refine zm_iload (x := a5) 5 dX8_belongsOf_83 rfl ?_
  refine zm_sub [0, 1, 2, 3, 4, 6, 7] rfl ?_
  exact k
theorem gX8_belongsOf_85 {d : Nat} {Q : Value → zm_S → Prop} {w : zm_S} {a1 : Int32} {a2 : Int32} {a3 : Int32} {a4 : Int32} {a6 : Int32} {a7 : Int32} {s0 : Int32} (kt : a4 ≤ a7 → zm_T zd_H d mX8_belongsOf Q 99 [(0, .ref 0), (1, .int a1), (2, .int a2), (3, .int a3), (4, .int a4), (5, .int s0), (6, .int a6)] [] w) (kf : ¬ a4 ≤ a7 → zm_T zd_H d mX8_belongsOf Q 94 [(0, .ref 0), (1, .int a1), (2, .int a2), (3, .int a3), (5, .int s0), (6, .int a6), (7, .int a7)] [] w) : zm_T zd_H d mX8_belongsOf Q 85 [(0, .ref 0), (1, .int a1), (2, .int a2), (3, .int a3), (4, .int a4), (6, .int a6), (7, .int a7)] [.int s0] w := by
  refine zm_istore dX8_belongsOf_85 (Nat.le_of_ble_eq_true rfl) (ls' := [(5, .int s0), (0, .ref 0), (1, .int a1), (2, .int a2), (3, .int a3), (4, .int a4), (6, .int a6), (7, .int a7)]) rfl ?_
  refine zm_iload (x := a7) 7 dX8_belongsOf_87 rfl ?_
  refine zm_iload (x := a4) 5 dX8_belongsOf_89 rfl ?_
  refine zm_icmp_ge 99 dX8_belongsOf_91 (by decide) (fun h => ?_) (fun h => ?_)
  · refine zm_sub [1, 2, 3, 4, 5, 0, 6] rfl ?_
    exact kt h
  · refine zm_sub [1, 2, 3, 4, 0, 6, 7] rfl ?_
    exact kf h
theorem gX8_belongsOf_94 {d : Nat} {Q : Value → zm_S → Prop} {w : zm_S} {a1 : Int32} {a2 : Int32} {a3 : Int32} {a5 : Int32} {a6 : Int32} {a7 : Int32} (k : zm_T zd_H d mX8_belongsOf Q 101 [(0, .ref 0), (1, .int a1), (2, .int a2), (3, .int a3), (5, .int a5), (6, .int a6)] [.int a7] w) : zm_T zd_H d mX8_belongsOf Q 94 [(0, .ref 0), (1, .int a1), (2, .int a2), (3, .int a3), (5, .int a5), (6, .int a6), (7, .int a7)] [] w := by
  refine zm_iload (x := a7) 6 dX8_belongsOf_94 rfl ?_
  refine zm_goto 101 dX8_belongsOf_96 (by decide) ?_
  refine zm_sub [0, 1, 2, 3, 4, 5] rfl ?_
  exact k
theorem gX8_belongsOf_99 {d : Nat} {Q : Value → zm_S → Prop} {w : zm_S} {a1 : Int32} {a2 : Int32} {a3 : Int32} {a4 : Int32} {a5 : Int32} {a6 : Int32} (k : zm_T zd_H d mX8_belongsOf Q 101 [(0, .ref 0), (1, .int a1), (2, .int a2), (3, .int a3), (5, .int a5), (6, .int a6)] [.int a4] w) : zm_T zd_H d mX8_belongsOf Q 99 [(0, .ref 0), (1, .int a1), (2, .int a2), (3, .int a3), (4, .int a4), (5, .int a5), (6, .int a6)] [] w := by
  refine zm_iload (x := a4) 4 dX8_belongsOf_99 rfl ?_
  refine zm_sub [0, 1, 2, 3, 5, 6] rfl ?_
  exact k
theorem gX8_belongsOf_101 {d : Nat} {Q : Value → zm_S → Prop} {w : zm_S} {a1 : Int32} {a2 : Int32} {a3 : Int32} {a5 : Int32} {a6 : Int32} {s0 : Int32} (k : zm_T zd_H d mX8_belongsOf Q 103 [(0, .ref 0), (1, .int a1), (2, .int a2), (3, .int a3), (4, .int s0), (5, .int a5), (6, .int a6)] [] w) : zm_T zd_H d mX8_belongsOf Q 101 [(0, .ref 0), (1, .int a1), (2, .int a2), (3, .int a3), (5, .int a5), (6, .int a6)] [.int s0] w := by
  refine zm_istore dX8_belongsOf_101 (Nat.le_of_ble_eq_true rfl) (ls' := [(4, .int s0), (0, .ref 0), (1, .int a1), (2, .int a2), (3, .int a3), (5, .int a5), (6, .int a6)]) rfl ?_
  refine zm_sub [1, 2, 3, 4, 0, 5, 6] rfl ?_
  exact k
theorem gX8_belongsOf_103 {d : Nat} {Q : Value → zm_S → Prop} {w : zm_S} {a1 : Int32} {a2 : Int32} {a3 : Int32} {a4 : Int32} {a5 : Int32} {a6 : Int32} (k : zm_T zd_H d mX8_belongsOf Q 17 [(0, .ref 0), (1, .int a1), (2, .int a2), (3, .int a3), (4, .int a4), (5, .int a5), (6, .int (a6 + (1 : Int32)))] [] w) : zm_T zd_H d mX8_belongsOf Q 103 [(0, .ref 0), (1, .int a1), (2, .int a2), (3, .int a3), (4, .int a4), (5, .int a5), (6, .int a6)] [] w := by
  refine zm_iinc 6 dX8_belongsOf_103 (x := a6) (v := (a6 + (1 : Int32))) rfl rfl (Nat.le_of_ble_eq_true rfl) (ls' := [(6, .int (a6 + (1 : Int32))), (0, .ref 0), (1, .int a1), (2, .int a2), (3, .int a3), (4, .int a4), (5, .int a5)]) rfl ?_
  refine zm_goto 17 dX8_belongsOf_106 (by decide) ?_
  refine zm_sub [1, 2, 3, 4, 5, 6, 0] rfl ?_
  exact k
theorem gX8_belongsOf_109 {d : Nat} {Q : Value → zm_S → Prop} {w : zm_S} {a2 : Int32} {a3 : Int32} {a4 : Int32} {a5 : Int32} (kt : ¬ a2 = 0 → zm_T zd_H d mX8_belongsOf Q 117 [(2, .int a2), (4, .int a4), (5, .int a5)] [] w) (kf : a2 = 0 → zm_T zd_H d mX8_belongsOf Q 113 [(3, .int a3)] [] w) : zm_T zd_H d mX8_belongsOf Q 109 [(2, .int a2), (3, .int a3), (4, .int a4), (5, .int a5)] [] w := by
  refine zm_iload_n (x := a2) 0 dX8_belongsOf_109 rfl rfl ?_
  refine zm_if_ne 117 dX8_belongsOf_110 (by decide) (fun h => ?_) (fun h => ?_)
  · refine zm_sub [0, 2, 3] rfl ?_
    exact kt h
  · refine zm_sub [1] rfl ?_
    exact kf h
theorem gX8_belongsOf_113 {d : Nat} {Q : Value → zm_S → Prop} {w : zm_S} {a3 : Int32} (k : Q (.int a3) w) : zm_T zd_H d mX8_belongsOf Q 113 [(3, .int a3)] [] w := by
  refine zm_iload_n (x := a3) 0 dX8_belongsOf_113 rfl rfl ?_
  refine zm_goto 129 dX8_belongsOf_114 (by decide) ?_
  exact zm_ireturn dX8_belongsOf_129 rfl k
theorem gX8_belongsOf_117 {d : Nat} {Q : Value → zm_S → Prop} {w : zm_S} {a2 : Int32} {a4 : Int32} {a5 : Int32} (kt : ¬ a2 = (1 : Int32) → zm_T zd_H d mX8_belongsOf Q 127 [(5, .int a5)] [] w) (kf : a2 = (1 : Int32) → zm_T zd_H d mX8_belongsOf Q 122 [(4, .int a4)] [] w) : zm_T zd_H d mX8_belongsOf Q 117 [(2, .int a2), (4, .int a4), (5, .int a5)] [] w := by
  refine zm_iload_n (x := a2) 0 dX8_belongsOf_117 rfl rfl ?_
  refine zm_iconst dX8_belongsOf_118 (v := (1 : Int32)) (by decide) ?_
  refine zm_icmp_ne 127 dX8_belongsOf_119 (by decide) (fun h => ?_) (fun h => ?_)
  · refine zm_sub [2] rfl ?_
    exact kt h
  · refine zm_sub [1] rfl ?_
    exact kf h
theorem gX8_belongsOf_122 {d : Nat} {Q : Value → zm_S → Prop} {w : zm_S} {a4 : Int32} (k : Q (.int a4) w) : zm_T zd_H d mX8_belongsOf Q 122 [(4, .int a4)] [] w := by
  refine zm_iload (x := a4) 0 dX8_belongsOf_122 rfl ?_
  refine zm_goto 129 dX8_belongsOf_124 (by decide) ?_
  exact zm_ireturn dX8_belongsOf_129 rfl k
theorem gX8_belongsOf_127 {d : Nat} {Q : Value → zm_S → Prop} {w : zm_S} {a5 : Int32} (k : Q (.int a5) w) : zm_T zd_H d mX8_belongsOf Q 127 [(5, .int a5)] [] w := by
  refine zm_iload (x := a5) 0 dX8_belongsOf_127 rfl ?_
  exact zm_ireturn dX8_belongsOf_129 rfl k
theorem gX8_belongs_0 {d : Nat} {Q : Value → zm_S → Prop} {w : zm_S} {a1 : Int32} {a2 : Int32} {Q' : Value → zm_S → Prop} (hC : zm_C zd_H d mX8_isPupil [.int a1] w Q') (k : ∀ (r : Int32) (u : zm_S), Q' (.int r) u → zm_T zd_H (d + 1) mX8_belongs Q 4 [(0, .ref 0), (1, .int a1), (2, .int a2)] [.int r] u) : zm_T zd_H (d + 1) mX8_belongs Q 0 [(0, .ref 0), (1, .int a1), (2, .int a2)] [] w := by
  refine zm_iload_n (x := a1) 1 dX8_belongs_0 rfl rfl ?_
  refine zm_callSz (as := [.int a1]) (rest := []) dX8_belongs_1 rfl mtX8_isPupil lkX8_123 rfl (Nat.le_of_ble_eq_true rfl) hC rfl (fun r u hq => ?_)
  exact k r u hq
theorem gX8_belongs_4 {d : Nat} {Q : Value → zm_S → Prop} {w : zm_S} {a1 : Int32} {a2 : Int32} {s0 : Int32} (kt : s0 = 0 → zm_T zd_H d mX8_belongs Q 28 [] [] w) (kf : ¬ s0 = 0 → zm_T zd_H d mX8_belongs Q 7 [(0, .ref 0), (1, .int a1), (2, .int a2)] [] w) : zm_T zd_H d mX8_belongs Q 4 [(0, .ref 0), (1, .int a1), (2, .int a2)] [.int s0] w := by
  refine zm_if_eq 28 dX8_belongs_4 (by decide) (fun h => ?_) (fun h => ?_)
  · refine zm_sub [] rfl ?_
    exact kt h
  · exact kf h
theorem gX8_belongs_7 {d : Nat} {Q : Value → zm_S → Prop} {w : zm_S} {a1 : Int32} {a2 : Int32} {Q' : Value → zm_S → Prop} (hC : zm_C zd_H d mX8_in [.long ((a2).toInt64), .long (0 : Int64), .long (2 : Int64)] w Q') (k : ∀ (r : Int32) (u : zm_S), Q' (.int r) u → zm_T zd_H (d + 1) mX8_belongs Q 16 [(0, .ref 0), (1, .int a1), (2, .int a2)] [.int r] u) : zm_T zd_H (d + 1) mX8_belongs Q 7 [(0, .ref 0), (1, .int a1), (2, .int a2)] [] w := by
  refine zm_iload_n (x := a2) 2 dX8_belongs_7 rfl rfl ?_
  refine zm_i2l dX8_belongs_8 ?_
  refine zm_lconst dX8_belongs_9 (v := (0 : Int64)) (by decide) ?_
  refine zm_ldc2_w dX8_belongs_10 kcX8_92 ?_
  refine zm_callSz (as := [.long ((a2).toInt64), .long (0 : Int64), .long (2 : Int64)]) (rest := []) dX8_belongs_13 rfl mtX8_in lkX8_78 rfl (Nat.le_of_ble_eq_true rfl) hC rfl (fun r u hq => ?_)
  exact k r u hq
theorem gX8_belongs_16 {d : Nat} {Q : Value → zm_S → Prop} {w : zm_S} {a1 : Int32} {a2 : Int32} {s0 : Int32} (kt : s0 = 0 → zm_T zd_H d mX8_belongs Q 28 [] [] w) (kf : ¬ s0 = 0 → zm_T zd_H d mX8_belongs Q 19 [(0, .ref 0), (1, .int a1), (2, .int a2)] [] w) : zm_T zd_H d mX8_belongs Q 16 [(0, .ref 0), (1, .int a1), (2, .int a2)] [.int s0] w := by
  refine zm_if_eq 28 dX8_belongs_16 (by decide) (fun h => ?_) (fun h => ?_)
  · refine zm_sub [] rfl ?_
    exact kt h
  · exact kf h
theorem gX8_belongs_19 {d : Nat} {Q : Value → zm_S → Prop} {w : zm_S} {a1 : Int32} {a2 : Int32} {Q' : Value → zm_S → Prop} (hC : zm_C zd_H d mX8_belongsOf [.ref 0, .int a1, .int a2] w Q') (k : ∀ (r : Int32) (u : zm_S), Q' (.int r) u → zm_T zd_H (d + 1) mX8_belongs Q 25 [] [.int r] u) : zm_T zd_H (d + 1) mX8_belongs Q 19 [(0, .ref 0), (1, .int a1), (2, .int a2)] [] w := by
  refine zm_aload_n (x := 0) 0 dX8_belongs_19 rfl rfl ?_
  refine zm_iload_n (x := a1) 1 dX8_belongs_20 rfl rfl ?_
  refine zm_iload_n (x := a2) 2 dX8_belongs_21 rfl rfl ?_
  refine zm_callVi (as := [.int a1, .int a2]) (rest := []) dX8_belongs_22 rfl mtX8_belongsOf lkX8_267 zd_H0 (C := RX8) rfl rfl rfl (Nat.le_of_ble_eq_true rfl) hC rfl (fun r u hq => ?_)
  refine zm_sub [] rfl ?_
  exact k r u hq
theorem gX8_belongs_25 {d : Nat} {Q : Value → zm_S → Prop} {w : zm_S} {s0 : Int32} (k : Q (.int s0) w) : zm_T zd_H d mX8_belongs Q 25 [] [.int s0] w := by
  refine zm_goto 30 dX8_belongs_25 (by decide) ?_
  exact zm_ireturn dX8_belongs_30 rfl k
theorem gX8_belongs_28 {d : Nat} {Q : Value → zm_S → Prop} {w : zm_S} (k : Q (.int (-2 : Int32)) w) : zm_T zd_H d mX8_belongs Q 28 [] [] w := by
  refine zm_bipush dX8_belongs_28 (v := (-2 : Int32)) (by decide) ?_
  exact zm_ireturn dX8_belongs_30 rfl k
theorem gX8_next_0 {d : Nat} {Q : Value → zm_S → Prop} {w : zm_S} {a1 : Int32} {a2 : Int32} {Q' : Value → zm_S → Prop} (hC : zm_C zd_H d mX8_in [.long ((a1).toInt64), .long (0 : Int64), .long (127 : Int64)] w Q') (k : ∀ (r : Int32) (u : zm_S), Q' (.int r) u → zm_T zd_H (d + 1) mX8_next Q 9 [(0, .ref 0), (1, .int a1), (2, .int a2)] [.int r] u) : zm_T zd_H (d + 1) mX8_next Q 0 [(0, .ref 0), (1, .int a1), (2, .int a2)] [] w := by
  refine zm_iload_n (x := a1) 1 dX8_next_0 rfl rfl ?_
  refine zm_i2l dX8_next_1 ?_
  refine zm_lconst dX8_next_2 (v := (0 : Int64)) (by decide) ?_
  refine zm_ldc2_w dX8_next_3 kcX8_195 ?_
  refine zm_callSz (as := [.long ((a1).toInt64), .long (0 : Int64), .long (127 : Int64)]) (rest := []) dX8_next_6 rfl mtX8_in lkX8_78 rfl (Nat.le_of_ble_eq_true rfl) hC rfl (fun r u hq => ?_)
  exact k r u hq
theorem gX8_next_9 {d : Nat} {Q : Value → zm_S → Prop} {w : zm_S} {a1 : Int32} {a2 : Int32} {s0 : Int32} (kt : s0 = 0 → zm_T zd_H d mX8_next Q 24 [] [] w) (kf : ¬ s0 = 0 → zm_T zd_H d mX8_next Q 12 [(0, .ref 0), (1, .int a1), (2, .int a2)] [] w) : zm_T zd_H d mX8_next Q 9 [(0, .ref 0), (1, .int a1), (2, .int a2)] [.int s0] w := by
  refine zm_if_eq 24 dX8_next_9 (by decide) (fun h => ?_) (fun h => ?_)
  · refine zm_sub [] rfl ?_
    exact kt h
  · exact kf h
theorem gX8_next_12 {d : Nat} {Q : Value → zm_S → Prop} {w : zm_S} {a1 : Int32} {a2 : Int32} {Q' : Value → zm_S → Prop} (hC : zm_C zd_H d mX8_in [.long ((a2).toInt64), .long (0 : Int64), .long (2 : Int64)] w Q') (k : ∀ (r : Int32) (u : zm_S), Q' (.int r) u → zm_T zd_H (d + 1) mX8_next Q 21 [(0, .ref 0), (1, .int a1), (2, .int a2)] [.int r] u) : zm_T zd_H (d + 1) mX8_next Q 12 [(0, .ref 0), (1, .int a1), (2, .int a2)] [] w := by
  refine zm_iload_n (x := a2) 2 dX8_next_12 rfl rfl ?_
  refine zm_i2l dX8_next_13 ?_
  refine zm_lconst dX8_next_14 (v := (0 : Int64)) (by decide) ?_
  refine zm_ldc2_w dX8_next_15 kcX8_92 ?_
  refine zm_callSz (as := [.long ((a2).toInt64), .long (0 : Int64), .long (2 : Int64)]) (rest := []) dX8_next_18 rfl mtX8_in lkX8_78 rfl (Nat.le_of_ble_eq_true rfl) hC rfl (fun r u hq => ?_)
  exact k r u hq
theorem gX8_next_21 {d : Nat} {Q : Value → zm_S → Prop} {w : zm_S} {a1 : Int32} {a2 : Int32} {s0 : Int32} (kt : ¬ s0 = 0 → zm_T zd_H d mX8_next Q 27 [(0, .ref 0), (1, .int a1), (2, .int a2)] [] w) (kf : s0 = 0 → zm_T zd_H d mX8_next Q 24 [] [] w) : zm_T zd_H d mX8_next Q 21 [(0, .ref 0), (1, .int a1), (2, .int a2)] [.int s0] w := by
  refine zm_if_ne 27 dX8_next_21 (by decide) (fun h => ?_) (fun h => ?_)
  · exact kt h
  · refine zm_sub [] rfl ?_
    exact kf h
theorem gX8_next_24 {d : Nat} {Q : Value → zm_S → Prop} {w : zm_S} (k : Q (.int (-2 : Int32)) w) : zm_T zd_H d mX8_next Q 24 [] [] w := by
  refine zm_bipush dX8_next_24 (v := (-2 : Int32)) (by decide) ?_
  exact zm_ireturn dX8_next_26 rfl k
theorem gX8_next_27 {d : Nat} {Q : Value → zm_S → Prop} {w : zm_S} {a1 : Int32} {a2 : Int32} {Q' : Value → zm_S → Prop} (hC : zm_C zd_H d mX8_findNeeds [.ref 0] w Q') (k : ∀ (u : zm_S), Q' .null u → zm_T zd_H (d + 1) mX8_next Q 31 [(0, .ref 0), (1, .int a1), (2, .int a2)] [] u) : zm_T zd_H (d + 1) mX8_next Q 27 [(0, .ref 0), (1, .int a1), (2, .int a2)] [] w := by
  refine zm_aload_n (x := 0) 0 dX8_next_27 rfl rfl ?_
  refine zm_callVv (as := []) (rest := []) dX8_next_28 rfl mtX8_findNeeds lkX8_258 zd_H0 (C := RX8) rfl rfl rfl (Nat.le_of_ble_eq_true rfl) hC rfl (fun u hq => ?_)
  exact k u hq
theorem gX8_next_31 {d : Nat} {Q : Value → zm_S → Prop} {w : zm_S} {a1 : Int32} {a2 : Int32} {Q' : Value → zm_S → Prop} (hC : zm_C zd_H d mX8_whole [.ref 0] w Q') (k : ∀ (r : Int32) (u : zm_S), Q' (.int r) u → zm_T zd_H (d + 1) mX8_next Q 36 [(0, .ref 0), (2, .int a2)] [.int r, .int a1] u) : zm_T zd_H (d + 1) mX8_next Q 31 [(0, .ref 0), (1, .int a1), (2, .int a2)] [] w := by
  refine zm_iload_n (x := a1) 1 dX8_next_31 rfl rfl ?_
  refine zm_aload_n (x := 0) 0 dX8_next_32 rfl rfl ?_
  refine zm_callVi (as := []) (rest := [.int a1]) dX8_next_33 rfl mtX8_whole lkX8_228 zd_H0 (C := RX8) rfl rfl rfl (Nat.le_of_ble_eq_true rfl) hC rfl (fun r u hq => ?_)
  refine zm_sub [0, 2] rfl ?_
  exact k r u hq
theorem gX8_next_36 {d : Nat} {Q : Value → zm_S → Prop} {w : zm_S} {a2 : Int32} {s0 : Int32} {s1 : Int32} (kt : ¬ a2 = (2 : Int32) → zm_T zd_H d mX8_next Q 57 [(0, .ref 0), (2, .int a2), (3, .int (s1 &&& s0))] [] w) (kf : a2 = (2 : Int32) → zm_T zd_H d mX8_next Q 43 [(0, .ref 0), (3, .int (s1 &&& s0))] [] w) : zm_T zd_H d mX8_next Q 36 [(0, .ref 0), (2, .int a2)] [.int s0, .int s1] w := by
  refine zm_iand dX8_next_36 ?_
  refine zm_istore_n dX8_next_37 rfl (Nat.le_of_ble_eq_true rfl) (ls' := [(3, .int (s1 &&& s0)), (0, .ref 0), (2, .int a2)]) rfl ?_
  refine zm_iload_n (x := a2) 2 dX8_next_38 rfl rfl ?_
  refine zm_iconst dX8_next_39 (v := (2 : Int32)) (by decide) ?_
  refine zm_icmp_ne 57 dX8_next_40 (by decide) (fun h => ?_) (fun h => ?_)
  · refine zm_sub [1, 2, 0] rfl ?_
    exact kt h
  · refine zm_sub [1, 0] rfl ?_
    exact kf h
theorem gX8_next_43 {d : Nat} {Q : Value → zm_S → Prop} {w : zm_S} {a3 : Int32} {Q' : Value → zm_S → Prop} (hC : zm_C zd_H d mX8_isState [.ref 0, .int a3] w Q') (k : ∀ (r : Int32) (u : zm_S), Q' (.int r) u → zm_T zd_H (d + 1) mX8_next Q 48 [] [.int r] u) : zm_T zd_H (d + 1) mX8_next Q 43 [(0, .ref 0), (3, .int a3)] [] w := by
  refine zm_aload_n (x := 0) 0 dX8_next_43 rfl rfl ?_
  refine zm_iload_n (x := a3) 1 dX8_next_44 rfl rfl ?_
  refine zm_callVz (as := [.int a3]) (rest := []) dX8_next_45 rfl mtX8_isState lkX8_261 zd_H0 (C := RX8) rfl rfl rfl (Nat.le_of_ble_eq_true rfl) hC rfl (fun r u hq => ?_)
  refine zm_sub [] rfl ?_
  exact k r u hq
theorem gX8_next_48 {d : Nat} {Q : Value → zm_S → Prop} {w : zm_S} {s0 : Int32} (kt : s0 = 0 → zm_T zd_H d mX8_next Q 55 [] [] w) (kf : ¬ s0 = 0 → zm_T zd_H d mX8_next Q 51 [] [] w) : zm_T zd_H d mX8_next Q 48 [] [.int s0] w := by
  refine zm_if_eq 55 dX8_next_48 (by decide) (fun h => ?_) (fun h => ?_)
  · exact kt h
  · exact kf h
theorem gX8_next_51 {d : Nat} {Q : Value → zm_S → Prop} {w : zm_S} (k : Q (.int (1 : Int32)) w) : zm_T zd_H d mX8_next Q 51 [] [] w := by
  refine zm_iconst dX8_next_51 (v := (1 : Int32)) (by decide) ?_
  refine zm_goto 56 dX8_next_52 (by decide) ?_
  exact zm_ireturn dX8_next_56 rfl k
theorem gX8_next_55 {d : Nat} {Q : Value → zm_S → Prop} {w : zm_S} (k : Q (.int (0 : Int32)) w) : zm_T zd_H d mX8_next Q 55 [] [] w := by
  refine zm_iconst dX8_next_55 (v := (0 : Int32)) (by decide) ?_
  exact zm_ireturn dX8_next_56 rfl k
theorem gX8_next_57 {d : Nat} {Q : Value → zm_S → Prop} {w : zm_S} {a2 : Int32} {a3 : Int32} (k : zm_T zd_H d mX8_next Q 63 [(0, .ref 0), (2, .int a2), (3, .int a3), (4, .int (0 : Int32)), (5, .int (0 : Int32))] [] w) : zm_T zd_H d mX8_next Q 57 [(0, .ref 0), (2, .int a2), (3, .int a3)] [] w := by
  refine zm_iconst dX8_next_57 (v := (0 : Int32)) (by decide) ?_
  refine zm_istore dX8_next_58 (Nat.le_of_ble_eq_true rfl) (ls' := [(4, .int (0 : Int32)), (0, .ref 0), (2, .int a2), (3, .int a3)]) rfl ?_
  refine zm_iconst dX8_next_60 (v := (0 : Int32)) (by decide) ?_
  refine zm_istore dX8_next_61 (Nat.le_of_ble_eq_true rfl) (ls' := [(5, .int (0 : Int32)), (4, .int (0 : Int32)), (0, .ref 0), (2, .int a2), (3, .int a3)]) rfl ?_
  refine zm_sub [2, 3, 4, 1, 0] rfl ?_
  exact k
theorem gX8_next_63 {d : Nat} {Q : Value → zm_S → Prop} {w : zm_S} {a2 : Int32} {a3 : Int32} {a4 : Int32} {a5 : Int32} {Q' : Value → zm_S → Prop} (hC : zm_C zd_H d mX8_n [.ref 0] w Q') (k : ∀ (r : Int32) (u : zm_S), Q' (.int r) u → zm_T zd_H (d + 1) mX8_next Q 69 [(0, .ref 0), (2, .int a2), (3, .int a3), (4, .int a4), (5, .int a5)] [.int r, .int a5] u) : zm_T zd_H (d + 1) mX8_next Q 63 [(0, .ref 0), (2, .int a2), (3, .int a3), (4, .int a4), (5, .int a5)] [] w := by
  refine zm_iload (x := a5) 4 dX8_next_63 rfl ?_
  refine zm_aload_n (x := 0) 0 dX8_next_65 rfl rfl ?_
  refine zm_callVi (as := []) (rest := [.int a5]) dX8_next_66 rfl mtX8_n lkX8_111 zd_H0 (C := RX8) rfl rfl rfl (Nat.le_of_ble_eq_true rfl) hC rfl (fun r u hq => ?_)
  exact k r u hq
theorem gX8_next_69 {d : Nat} {Q : Value → zm_S → Prop} {w : zm_S} {a2 : Int32} {a3 : Int32} {a4 : Int32} {a5 : Int32} {s0 : Int32} {s1 : Int32} (kt : s0 ≤ s1 → zm_T zd_H d mX8_next Q 135 [(4, .int a4)] [] w) (kf : ¬ s0 ≤ s1 → zm_T zd_H d mX8_next Q 72 [(0, .ref 0), (2, .int a2), (3, .int a3), (4, .int a4), (5, .int a5)] [] w) : zm_T zd_H d mX8_next Q 69 [(0, .ref 0), (2, .int a2), (3, .int a3), (4, .int a4), (5, .int a5)] [.int s0, .int s1] w := by
  refine zm_icmp_ge 135 dX8_next_69 (by decide) (fun h => ?_) (fun h => ?_)
  · refine zm_sub [3] rfl ?_
    exact kt h
  · exact kf h
theorem gX8_next_72 {d : Nat} {Q : Value → zm_S → Prop} {w : zm_S} {a2 : Int32} {a3 : Int32} {a4 : Int32} {a5 : Int32} {Q' : Value → zm_S → Prop} (hC : zm_C zd_H d mX8_isIn [.int a3, .int a5] w Q') (k : ∀ (r : Int32) (u : zm_S), Q' (.int r) u → zm_T zd_H (d + 1) mX8_next Q 78 [(0, .ref 0), (2, .int a2), (3, .int a3), (4, .int a4), (5, .int a5)] [.int r] u) : zm_T zd_H (d + 1) mX8_next Q 72 [(0, .ref 0), (2, .int a2), (3, .int a3), (4, .int a4), (5, .int a5)] [] w := by
  refine zm_iload_n (x := a3) 2 dX8_next_72 rfl rfl ?_
  refine zm_iload (x := a5) 4 dX8_next_73 rfl ?_
  refine zm_callSz (as := [.int a3, .int a5]) (rest := []) dX8_next_75 rfl mtX8_isIn lkX8_153 rfl (Nat.le_of_ble_eq_true rfl) hC rfl (fun r u hq => ?_)
  exact k r u hq
theorem gX8_next_78 {d : Nat} {Q : Value → zm_S → Prop} {w : zm_S} {a2 : Int32} {a3 : Int32} {a4 : Int32} {a5 : Int32} {s0 : Int32} (kt : ¬ a2 = (1 : Int32) → zm_T zd_H d mX8_next Q 87 [(0, .ref 0), (2, .int a2), (3, .int a3), (4, .int a4), (5, .int a5)] [.int s0] w) (kf : a2 = (1 : Int32) → zm_T zd_H d mX8_next Q 83 [(0, .ref 0), (2, .int a2), (3, .int a3), (4, .int a4), (5, .int a5)] [.int s0] w) : zm_T zd_H d mX8_next Q 78 [(0, .ref 0), (2, .int a2), (3, .int a3), (4, .int a4), (5, .int a5)] [.int s0] w := by
  refine zm_iload_n (x := a2) 1 dX8_next_78 rfl rfl ?_
  refine zm_iconst dX8_next_79 (v := (1 : Int32)) (by decide) ?_
  refine zm_icmp_ne 87 dX8_next_80 (by decide) (fun h => ?_) (fun h => ?_)
  · exact kt h
  · exact kf h
theorem gX8_next_83 {d : Nat} {Q : Value → zm_S → Prop} {w : zm_S} {a2 : Int32} {a3 : Int32} {a4 : Int32} {a5 : Int32} {s0 : Int32} (k : zm_T zd_H d mX8_next Q 88 [(0, .ref 0), (2, .int a2), (3, .int a3), (4, .int a4), (5, .int a5)] [.int (1 : Int32), .int s0] w) : zm_T zd_H d mX8_next Q 83 [(0, .ref 0), (2, .int a2), (3, .int a3), (4, .int a4), (5, .int a5)] [.int s0] w := by
  refine zm_iconst dX8_next_83 (v := (1 : Int32)) (by decide) ?_
  refine zm_goto 88 dX8_next_84 (by decide) ?_
  exact k
theorem gX8_next_87 {d : Nat} {Q : Value → zm_S → Prop} {w : zm_S} {a2 : Int32} {a3 : Int32} {a4 : Int32} {a5 : Int32} {s0 : Int32} (k : zm_T zd_H d mX8_next Q 88 [(0, .ref 0), (2, .int a2), (3, .int a3), (4, .int a4), (5, .int a5)] [.int (0 : Int32), .int s0] w) : zm_T zd_H d mX8_next Q 87 [(0, .ref 0), (2, .int a2), (3, .int a3), (4, .int a4), (5, .int a5)] [.int s0] w := by
  refine zm_iconst dX8_next_87 (v := (0 : Int32)) (by decide) ?_
  exact k
theorem gX8_next_88 {d : Nat} {Q : Value → zm_S → Prop} {w : zm_S} {a2 : Int32} {a3 : Int32} {a4 : Int32} {a5 : Int32} {s0 : Int32} {s1 : Int32} (kt : ¬ s1 = s0 → zm_T zd_H d mX8_next Q 95 [(0, .ref 0), (2, .int a2), (3, .int a3), (4, .int a4), (5, .int a5)] [] w) (kf : s1 = s0 → zm_T zd_H d mX8_next Q 91 [(0, .ref 0), (2, .int a2), (3, .int a3), (4, .int a4), (5, .int a5)] [] w) : zm_T zd_H d mX8_next Q 88 [(0, .ref 0), (2, .int a2), (3, .int a3), (4, .int a4), (5, .int a5)] [.int s0, .int s1] w := by
  refine zm_icmp_ne 95 dX8_next_88 (by decide) (fun h => ?_) (fun h => ?_)
  · exact kt h
  · exact kf h
theorem gX8_next_91 {d : Nat} {Q : Value → zm_S → Prop} {w : zm_S} {a2 : Int32} {a3 : Int32} {a4 : Int32} {a5 : Int32} (k : zm_T zd_H d mX8_next Q 96 [(0, .ref 0), (2, .int a2), (3, .int a3), (4, .int a4), (5, .int a5)] [.int (1 : Int32)] w) : zm_T zd_H d mX8_next Q 91 [(0, .ref 0), (2, .int a2), (3, .int a3), (4, .int a4), (5, .int a5)] [] w := by
  refine zm_iconst dX8_next_91 (v := (1 : Int32)) (by decide) ?_
  refine zm_goto 96 dX8_next_92 (by decide) ?_
  exact k
theorem gX8_next_95 {d : Nat} {Q : Value → zm_S → Prop} {w : zm_S} {a2 : Int32} {a3 : Int32} {a4 : Int32} {a5 : Int32} (k : zm_T zd_H d mX8_next Q 96 [(0, .ref 0), (2, .int a2), (3, .int a3), (4, .int a4), (5, .int a5)] [.int (0 : Int32)] w) : zm_T zd_H d mX8_next Q 95 [(0, .ref 0), (2, .int a2), (3, .int a3), (4, .int a4), (5, .int a5)] [] w := by
  refine zm_iconst dX8_next_95 (v := (0 : Int32)) (by decide) ?_
  exact k
theorem gX8_next_96 {d : Nat} {Q : Value → zm_S → Prop} {w : zm_S} {a2 : Int32} {a3 : Int32} {a4 : Int32} {a5 : Int32} {s0 : Int32} (kt : s0 = 0 → zm_T zd_H d mX8_next Q 125 [(0, .ref 0), (2, .int a2), (3, .int a3), (5, .int a5)] [.int a4] w) (kf : ¬ s0 = 0 → zm_T zd_H d mX8_next Q 105 [(0, .ref 0), (2, .int a2), (3, .int a3), (5, .int a5)] [.int a4] w) : zm_T zd_H d mX8_next Q 96 [(0, .ref 0), (2, .int a2), (3, .int a3), (4, .int a4), (5, .int a5)] [.int s0] w := by
  refine zm_istore dX8_next_96 (Nat.le_of_ble_eq_true rfl) (ls' := [(6, .int s0), (0, .ref 0), (2, .int a2), (3, .int a3), (4, .int a4), (5, .int a5)]) rfl ?_
  refine zm_iload (x := a4) 4 dX8_next_98 rfl ?_
  refine zm_iload (x := s0) 0 dX8_next_100 rfl ?_
  refine zm_if_eq 125 dX8_next_102 (by decide) (fun h => ?_) (fun h => ?_)
  · refine zm_sub [1, 2, 3, 5] rfl ?_
    exact kt h
  · refine zm_sub [1, 2, 3, 5] rfl ?_
    exact kf h
theorem gX8_next_105 {d : Nat} {Q : Value → zm_S → Prop} {w : zm_S} {a2 : Int32} {a3 : Int32} {a5 : Int32} {s0 : Int32} {Q' : Value → zm_S → Prop} (hC : zm_C zd_H d mX8_isState [.ref 0, .int (a3 ^^^ ((1 : Int32) <<< (a5 &&& 31)))] w Q') (k : ∀ (r : Int32) (u : zm_S), Q' (.int r) u → zm_T zd_H (d + 1) mX8_next Q 115 [(0, .ref 0), (2, .int a2), (3, .int a3), (5, .int a5)] [.int r, .int s0] u) : zm_T zd_H (d + 1) mX8_next Q 105 [(0, .ref 0), (2, .int a2), (3, .int a3), (5, .int a5)] [.int s0] w := by
  refine zm_aload_n (x := 0) 0 dX8_next_105 rfl rfl ?_
  refine zm_iload_n (x := a3) 2 dX8_next_106 rfl rfl ?_
  refine zm_iconst dX8_next_107 (v := (1 : Int32)) (by decide) ?_
  refine zm_iload (x := a5) 3 dX8_next_108 rfl ?_
  refine zm_ishl dX8_next_110 ?_
  refine zm_ixor dX8_next_111 ?_
  refine zm_callVz (as := [.int (a3 ^^^ ((1 : Int32) <<< (a5 &&& 31)))]) (rest := [.int s0]) dX8_next_112 rfl mtX8_isState lkX8_261 zd_H0 (C := RX8) rfl rfl rfl (Nat.le_of_ble_eq_true rfl) hC rfl (fun r u hq => ?_)
  exact k r u hq
theorem gX8_next_115 {d : Nat} {Q : Value → zm_S → Prop} {w : zm_S} {a2 : Int32} {a3 : Int32} {a5 : Int32} {s0 : Int32} {s1 : Int32} (kt : s0 = 0 → zm_T zd_H d mX8_next Q 125 [(0, .ref 0), (2, .int a2), (3, .int a3), (5, .int a5)] [.int s1] w) (kf : ¬ s0 = 0 → zm_T zd_H d mX8_next Q 118 [(0, .ref 0), (2, .int a2), (3, .int a3), (5, .int a5)] [.int s1] w) : zm_T zd_H d mX8_next Q 115 [(0, .ref 0), (2, .int a2), (3, .int a3), (5, .int a5)] [.int s0, .int s1] w := by
  refine zm_if_eq 125 dX8_next_115 (by decide) (fun h => ?_) (fun h => ?_)
  · exact kt h
  · exact kf h
theorem gX8_next_118 {d : Nat} {Q : Value → zm_S → Prop} {w : zm_S} {a2 : Int32} {a3 : Int32} {a5 : Int32} {s0 : Int32} (k : zm_T zd_H d mX8_next Q 126 [(0, .ref 0), (2, .int a2), (3, .int a3), (5, .int a5)] [.int ((1 : Int32) <<< (a5 &&& 31)), .int s0] w) : zm_T zd_H d mX8_next Q 118 [(0, .ref 0), (2, .int a2), (3, .int a3), (5, .int a5)] [.int s0] w := by
  refine zm_iconst dX8_next_118 (v := (1 : Int32)) (by decide) ?_
  refine zm_iload (x := a5) 3 dX8_next_119 rfl ?_
  refine zm_ishl dX8_next_121 ?_
  refine zm_goto 126 dX8_next_122 (by decide) ?_
  exact k
theorem gX8_next_125 {d : Nat} {Q : Value → zm_S → Prop} {w : zm_S} {a2 : Int32} {a3 : Int32} {a5 : Int32} {s0 : Int32} (k : zm_T zd_H d mX8_next Q 126 [(0, .ref 0), (2, .int a2), (3, .int a3), (5, .int a5)] [.int (0 : Int32), .int s0] w) : zm_T zd_H d mX8_next Q 125 [(0, .ref 0), (2, .int a2), (3, .int a3), (5, .int a5)] [.int s0] w := by
  refine zm_iconst dX8_next_125 (v := (0 : Int32)) (by decide) ?_
  exact k
theorem gX8_next_126 {d : Nat} {Q : Value → zm_S → Prop} {w : zm_S} {a2 : Int32} {a3 : Int32} {a5 : Int32} {s0 : Int32} {s1 : Int32} (k : zm_T zd_H d mX8_next Q 63 [(0, .ref 0), (2, .int a2), (3, .int a3), (4, .int (s1 ||| s0)), (5, .int (a5 + (1 : Int32)))] [] w) : zm_T zd_H d mX8_next Q 126 [(0, .ref 0), (2, .int a2), (3, .int a3), (5, .int a5)] [.int s0, .int s1] w := by
  refine zm_ior dX8_next_126 ?_
  refine zm_istore dX8_next_127 (Nat.le_of_ble_eq_true rfl) (ls' := [(4, .int (s1 ||| s0)), (0, .ref 0), (2, .int a2), (3, .int a3), (5, .int a5)]) rfl ?_
  refine zm_iinc 4 dX8_next_129 (x := a5) (v := (a5 + (1 : Int32))) rfl rfl (Nat.le_of_ble_eq_true rfl) (ls' := [(5, .int (a5 + (1 : Int32))), (4, .int (s1 ||| s0)), (0, .ref 0), (2, .int a2), (3, .int a3)]) rfl ?_
  refine zm_goto 63 dX8_next_132 (by decide) ?_
  refine zm_sub [2, 3, 4, 1, 0] rfl ?_
  exact k
theorem gX8_next_135 {d : Nat} {Q : Value → zm_S → Prop} {w : zm_S} {a4 : Int32} (k : Q (.int a4) w) : zm_T zd_H d mX8_next Q 135 [(4, .int a4)] [] w := by
  refine zm_iload (x := a4) 0 dX8_next_135 rfl ?_
  exact zm_ireturn dX8_next_137 rfl k
theorem gX8_pathsNow_0 {d : Nat} {Q : Value → zm_S → Prop} {w : zm_S} {Q' : Value → zm_S → Prop} (hC : zm_C zd_H d mX8_findNeeds [.ref 0] w Q') (k : ∀ (u : zm_S), Q' .null u → zm_T zd_H (d + 1) mX8_pathsNow Q 4 [(0, .ref 0)] [] u) : zm_T zd_H (d + 1) mX8_pathsNow Q 0 [(0, .ref 0)] [] w := by
  refine zm_aload_n (x := 0) 0 dX8_pathsNow_0 rfl rfl ?_
  refine zm_callVv (as := []) (rest := []) dX8_pathsNow_1 rfl mtX8_findNeeds lkX8_258 zd_H0 (C := RX8) rfl rfl rfl (Nat.le_of_ble_eq_true rfl) hC rfl (fun u hq => ?_)
  exact k u hq
theorem gX8_pathsNow_4 {d : Nat} {Q : Value → zm_S → Prop} {w : zm_S} (k : zm_T zd_H d mX8_pathsNow Q 6 [(0, .ref 0), (1, .int (0 : Int32))] [] w) : zm_T zd_H d mX8_pathsNow Q 4 [(0, .ref 0)] [] w := by
  refine zm_iconst dX8_pathsNow_4 (v := (0 : Int32)) (by decide) ?_
  refine zm_istore_n dX8_pathsNow_5 rfl (Nat.le_of_ble_eq_true rfl) (ls' := [(1, .int (0 : Int32)), (0, .ref 0)]) rfl ?_
  refine zm_sub [1, 0] rfl ?_
  exact k
theorem gX8_pathsNow_6 {d : Nat} {Q : Value → zm_S → Prop} {w : zm_S} {a1 : Int32} {Q' : Value → zm_S → Prop} (hC : zm_C zd_H d mX8_whole [.ref 0] w Q') (k : ∀ (r : Int32) (u : zm_S), Q' (.int r) u → zm_T zd_H (d + 1) mX8_pathsNow Q 11 [(0, .ref 0), (1, .int a1)] [.int r, .int a1] u) : zm_T zd_H (d + 1) mX8_pathsNow Q 6 [(0, .ref 0), (1, .int a1)] [] w := by
  refine zm_iload_n (x := a1) 1 dX8_pathsNow_6 rfl rfl ?_
  refine zm_aload_n (x := 0) 0 dX8_pathsNow_7 rfl rfl ?_
  refine zm_callVi (as := []) (rest := [.int a1]) dX8_pathsNow_8 rfl mtX8_whole lkX8_228 zd_H0 (C := RX8) rfl rfl rfl (Nat.le_of_ble_eq_true rfl) hC rfl (fun r u hq => ?_)
  exact k r u hq
theorem gX8_pathsNow_11 {d : Nat} {Q : Value → zm_S → Prop} {w : zm_S} {a1 : Int32} {s0 : Int32} {s1 : Int32} (kt : s0 < s1 → zm_T zd_H d mX8_pathsNow Q 90 [(0, .ref 0)] [] w) (kf : ¬ s0 < s1 → zm_T zd_H d mX8_pathsNow Q 14 [(0, .ref 0), (1, .int a1)] [] w) : zm_T zd_H d mX8_pathsNow Q 11 [(0, .ref 0), (1, .int a1)] [.int s0, .int s1] w := by
  refine zm_icmp_gt 90 dX8_pathsNow_11 (by decide) (fun h => ?_) (fun h => ?_)
  · refine zm_sub [0] rfl ?_
    exact kt h
  · exact kf h
theorem gX8_pathsNow_14 {d : Nat} {Q : Value → zm_S → Prop} {w : zm_S} {a1 : Int32} (kt : ¬ a1 = 0 → zm_T zd_H d mX8_pathsNow Q 27 [(0, .ref 0), (1, .int a1)] [.int a1, .ref 17] w) (kf : a1 = 0 → zm_T zd_H d mX8_pathsNow Q 23 [(0, .ref 0), (1, .int a1)] [.int a1, .ref 17] w) : zm_T zd_H d mX8_pathsNow Q 14 [(0, .ref 0), (1, .int a1)] [] w := by
  refine zm_aload_n (x := 0) 0 dX8_pathsNow_14 rfl rfl ?_
  refine zm_getf (v := .ref 17) (j := 23) dX8_pathsNow_15 clX8 flX8_58 (Nat.le_of_ble_eq_true rfl) zd_H0 rfl rfl ?_
  refine zm_iload_n (x := a1) 1 dX8_pathsNow_18 rfl rfl ?_
  refine zm_iload_n (x := a1) 1 dX8_pathsNow_19 rfl rfl ?_
  refine zm_if_ne 27 dX8_pathsNow_20 (by decide) (fun h => ?_) (fun h => ?_)
  · exact kt h
  · exact kf h
theorem gX8_pathsNow_23 {d : Nat} {Q : Value → zm_S → Prop} {w : zm_S} {a1 : Int32} {s0 : Int32} (k : zm_T zd_H d mX8_pathsNow Q 28 [(0, .ref 0), (1, .int a1)] [.int (1 : Int32), .int s0, .ref 17] w) : zm_T zd_H d mX8_pathsNow Q 23 [(0, .ref 0), (1, .int a1)] [.int s0, .ref 17] w := by
  refine zm_iconst dX8_pathsNow_23 (v := (1 : Int32)) (by decide) ?_
  refine zm_goto 28 dX8_pathsNow_24 (by decide) ?_
  exact k
theorem gX8_pathsNow_27 {d : Nat} {Q : Value → zm_S → Prop} {w : zm_S} {a1 : Int32} {s0 : Int32} (k : zm_T zd_H d mX8_pathsNow Q 28 [(0, .ref 0), (1, .int a1)] [.int (0 : Int32), .int s0, .ref 17] w) : zm_T zd_H d mX8_pathsNow Q 27 [(0, .ref 0), (1, .int a1)] [.int s0, .ref 17] w := by
  refine zm_iconst dX8_pathsNow_27 (v := (0 : Int32)) (by decide) ?_
  exact k
theorem gX8_pathsNow_28 {d : Nat} {Q : Value → zm_S → Prop} {w : zm_S} {a1 : Int32} {s0 : Int32} {s1 : Int32} (hi28 : vp_in s1 128) (k : zm_T zd_H d mX8_pathsNow Q 31 [(0, .ref 0), (1, .int a1), (2, .int (0 : Int32))] [] (zm_pi w 17 (s1).toNatClampNeg s0)) : zm_T zd_H d mX8_pathsNow Q 28 [(0, .ref 0), (1, .int a1)] [.int s0, .int s1, .ref 17] w := by
  refine zm_iast dX8_pathsNow_28 zd_H17 hi28 ?_
  refine zm_iconst dX8_pathsNow_29 (v := (0 : Int32)) (by decide) ?_
  refine zm_istore_n dX8_pathsNow_30 rfl (Nat.le_of_ble_eq_true rfl) (ls' := [(2, .int (0 : Int32)), (0, .ref 0), (1, .int a1)]) rfl ?_
  refine zm_sub [1, 2, 0] rfl ?_
  exact k
theorem gX8_pathsNow_31 {d : Nat} {Q : Value → zm_S → Prop} {w : zm_S} {a1 : Int32} {a2 : Int32} {Q' : Value → zm_S → Prop} (hC : zm_C zd_H d mX8_n [.ref 0] w Q') (k : ∀ (r : Int32) (u : zm_S), Q' (.int r) u → zm_T zd_H (d + 1) mX8_pathsNow Q 36 [(0, .ref 0), (1, .int a1), (2, .int a2)] [.int r, .int a2] u) : zm_T zd_H (d + 1) mX8_pathsNow Q 31 [(0, .ref 0), (1, .int a1), (2, .int a2)] [] w := by
  refine zm_iload_n (x := a2) 2 dX8_pathsNow_31 rfl rfl ?_
  refine zm_aload_n (x := 0) 0 dX8_pathsNow_32 rfl rfl ?_
  refine zm_callVi (as := []) (rest := [.int a2]) dX8_pathsNow_33 rfl mtX8_n lkX8_111 zd_H0 (C := RX8) rfl rfl rfl (Nat.le_of_ble_eq_true rfl) hC rfl (fun r u hq => ?_)
  exact k r u hq
theorem gX8_pathsNow_36 {d : Nat} {Q : Value → zm_S → Prop} {w : zm_S} {a1 : Int32} {a2 : Int32} {s0 : Int32} {s1 : Int32} (kt : s0 ≤ s1 → zm_T zd_H d mX8_pathsNow Q 84 [(0, .ref 0), (1, .int a1)] [] w) (kf : ¬ s0 ≤ s1 → zm_T zd_H d mX8_pathsNow Q 39 [(0, .ref 0), (1, .int a1), (2, .int a2)] [] w) : zm_T zd_H d mX8_pathsNow Q 36 [(0, .ref 0), (1, .int a1), (2, .int a2)] [.int s0, .int s1] w := by
  refine zm_icmp_ge 84 dX8_pathsNow_36 (by decide) (fun h => ?_) (fun h => ?_)
  · refine zm_sub [0, 1] rfl ?_
    exact kt h
  · exact kf h
theorem gX8_pathsNow_39 {d : Nat} {Q : Value → zm_S → Prop} {w : zm_S} {a1 : Int32} {a2 : Int32} {Q' : Value → zm_S → Prop} (hi45 : vp_in a1 128) (hC : zm_C zd_H d mX8_isIn [.int a1, .int a2] w Q') (k : ∀ (r : Int32) (u : zm_S), Q' (.int r) u → zm_T zd_H (d + 1) mX8_pathsNow Q 51 [(0, .ref 0), (1, .int a1), (2, .int a2)] [.int r, .int (w.1 17 (a1).toNatClampNeg), .int a1, .ref 17] u) : zm_T zd_H (d + 1) mX8_pathsNow Q 39 [(0, .ref 0), (1, .int a1), (2, .int a2)] [] w := by
  refine zm_aload_n (x := 0) 0 dX8_pathsNow_39 rfl rfl ?_
  refine zm_getf (v := .ref 17) (j := 23) dX8_pathsNow_40 clX8 flX8_58 (Nat.le_of_ble_eq_true rfl) zd_H0 rfl rfl ?_
  refine zm_iload_n (x := a1) 1 dX8_pathsNow_43 rfl rfl ?_
  refine zm_dup2 dX8_pathsNow_44 rfl rfl ?_
  refine zm_iald dX8_pathsNow_45 zd_H17 hi45 ?_
  refine zm_iload_n (x := a1) 1 dX8_pathsNow_46 rfl rfl ?_
  refine zm_iload_n (x := a2) 2 dX8_pathsNow_47 rfl rfl ?_
  refine zm_callSz (as := [.int a1, .int a2]) (rest := [.int (w.1 17 (a1).toNatClampNeg), .int a1, .ref 17]) dX8_pathsNow_48 rfl mtX8_isIn lkX8_153 rfl (Nat.le_of_ble_eq_true rfl) hC rfl (fun r u hq => ?_)
  exact k r u hq
theorem gX8_pathsNow_51 {d : Nat} {Q : Value → zm_S → Prop} {w : zm_S} {a1 : Int32} {a2 : Int32} {s0 : Int32} {s1 : Int32} {s2 : Int32} (kt : s0 = 0 → zm_T zd_H d mX8_pathsNow Q 75 [(0, .ref 0), (1, .int a1), (2, .int a2)] [.int s1, .int s2, .ref 17] w) (kf : ¬ s0 = 0 → zm_T zd_H d mX8_pathsNow Q 54 [(0, .ref 0), (1, .int a1), (2, .int a2)] [.int s1, .int s2, .ref 17] w) : zm_T zd_H d mX8_pathsNow Q 51 [(0, .ref 0), (1, .int a1), (2, .int a2)] [.int s0, .int s1, .int s2, .ref 17] w := by
  refine zm_if_eq 75 dX8_pathsNow_51 (by decide) (fun h => ?_) (fun h => ?_)
  · exact kt h
  · exact kf h
theorem gX8_pathsNow_54 {d : Nat} {Q : Value → zm_S → Prop} {w : zm_S} {a1 : Int32} {a2 : Int32} {s0 : Int32} {s1 : Int32} {Q' : Value → zm_S → Prop} (hC : zm_C zd_H d mX8_isState [.ref 0, .int a1] w Q') (k : ∀ (r : Int32) (u : zm_S), Q' (.int r) u → zm_T zd_H (d + 1) mX8_pathsNow Q 59 [(0, .ref 0), (1, .int a1), (2, .int a2)] [.int r, .int s0, .int s1, .ref 17] u) : zm_T zd_H (d + 1) mX8_pathsNow Q 54 [(0, .ref 0), (1, .int a1), (2, .int a2)] [.int s0, .int s1, .ref 17] w := by
  refine zm_aload_n (x := 0) 0 dX8_pathsNow_54 rfl rfl ?_
  refine zm_iload_n (x := a1) 1 dX8_pathsNow_55 rfl rfl ?_
  refine zm_callVz (as := [.int a1]) (rest := [.int s0, .int s1, .ref 17]) dX8_pathsNow_56 rfl mtX8_isState lkX8_261 zd_H0 (C := RX8) rfl rfl rfl (Nat.le_of_ble_eq_true rfl) hC rfl (fun r u hq => ?_)
  exact k r u hq
theorem gX8_pathsNow_59 {d : Nat} {Q : Value → zm_S → Prop} {w : zm_S} {a1 : Int32} {a2 : Int32} {s0 : Int32} {s1 : Int32} {s2 : Int32} (kt : s0 = 0 → zm_T zd_H d mX8_pathsNow Q 75 [(0, .ref 0), (1, .int a1), (2, .int a2)] [.int s1, .int s2, .ref 17] w) (kf : ¬ s0 = 0 → zm_T zd_H d mX8_pathsNow Q 62 [(0, .ref 0), (1, .int a1), (2, .int a2)] [.int s1, .int s2, .ref 17] w) : zm_T zd_H d mX8_pathsNow Q 59 [(0, .ref 0), (1, .int a1), (2, .int a2)] [.int s0, .int s1, .int s2, .ref 17] w := by
  refine zm_if_eq 75 dX8_pathsNow_59 (by decide) (fun h => ?_) (fun h => ?_)
  · exact kt h
  · exact kf h
theorem gX8_pathsNow_62 {d : Nat} {Q : Value → zm_S → Prop} {w : zm_S} {a1 : Int32} {a2 : Int32} {s0 : Int32} {s1 : Int32} (hi71 : vp_in (a1 ^^^ ((1 : Int32) <<< (a2 &&& 31))) 128) (k : zm_T zd_H d mX8_pathsNow Q 76 [(0, .ref 0), (1, .int a1), (2, .int a2)] [.int (w.1 17 ((a1 ^^^ ((1 : Int32) <<< (a2 &&& 31)))).toNatClampNeg), .int s0, .int s1, .ref 17] w) : zm_T zd_H d mX8_pathsNow Q 62 [(0, .ref 0), (1, .int a1), (2, .int a2)] [.int s0, .int s1, .ref 17] w := by
  refine zm_aload_n (x := 0) 0 dX8_pathsNow_62 rfl rfl ?_
  refine zm_getf (v := .ref 17) (j := 23) dX8_pathsNow_63 clX8 flX8_58 (Nat.le_of_ble_eq_true rfl) zd_H0 rfl rfl ?_
  refine zm_iload_n (x := a1) 1 dX8_pathsNow_66 rfl rfl ?_
  refine zm_iconst dX8_pathsNow_67 (v := (1 : Int32)) (by decide) ?_
  refine zm_iload_n (x := a2) 2 dX8_pathsNow_68 rfl rfl ?_
  refine zm_ishl dX8_pathsNow_69 ?_
  refine zm_ixor dX8_pathsNow_70 ?_
  refine zm_iald dX8_pathsNow_71 zd_H17 hi71 ?_
  refine zm_goto 76 dX8_pathsNow_72 (by decide) ?_
  exact k
theorem gX8_pathsNow_75 {d : Nat} {Q : Value → zm_S → Prop} {w : zm_S} {a1 : Int32} {a2 : Int32} {s0 : Int32} {s1 : Int32} (k : zm_T zd_H d mX8_pathsNow Q 76 [(0, .ref 0), (1, .int a1), (2, .int a2)] [.int (0 : Int32), .int s0, .int s1, .ref 17] w) : zm_T zd_H d mX8_pathsNow Q 75 [(0, .ref 0), (1, .int a1), (2, .int a2)] [.int s0, .int s1, .ref 17] w := by
  refine zm_iconst dX8_pathsNow_75 (v := (0 : Int32)) (by decide) ?_
  exact k
theorem gX8_pathsNow_76 {d : Nat} {Q : Value → zm_S → Prop} {w : zm_S} {a1 : Int32} {a2 : Int32} {s0 : Int32} {s1 : Int32} {s2 : Int32} (hi77 : vp_in s2 128) (k : zm_T zd_H d mX8_pathsNow Q 31 [(0, .ref 0), (1, .int a1), (2, .int (a2 + (1 : Int32)))] [] (zm_pi w 17 (s2).toNatClampNeg (s1 + s0))) : zm_T zd_H d mX8_pathsNow Q 76 [(0, .ref 0), (1, .int a1), (2, .int a2)] [.int s0, .int s1, .int s2, .ref 17] w := by
  refine zm_iadd dX8_pathsNow_76 ?_
  refine zm_iast dX8_pathsNow_77 zd_H17 hi77 ?_
  refine zm_iinc 2 dX8_pathsNow_78 (x := a2) (v := (a2 + (1 : Int32))) rfl rfl (Nat.le_of_ble_eq_true rfl) (ls' := [(2, .int (a2 + (1 : Int32))), (0, .ref 0), (1, .int a1)]) rfl ?_
  refine zm_goto 31 dX8_pathsNow_81 (by decide) ?_
  refine zm_sub [1, 2, 0] rfl ?_
  exact k
theorem gX8_pathsNow_84 {d : Nat} {Q : Value → zm_S → Prop} {w : zm_S} {a1 : Int32} (k : zm_T zd_H d mX8_pathsNow Q 6 [(0, .ref 0), (1, .int (a1 + (1 : Int32)))] [] w) : zm_T zd_H d mX8_pathsNow Q 84 [(0, .ref 0), (1, .int a1)] [] w := by
  refine zm_iinc 1 dX8_pathsNow_84 (x := a1) (v := (a1 + (1 : Int32))) rfl rfl (Nat.le_of_ble_eq_true rfl) (ls' := [(1, .int (a1 + (1 : Int32))), (0, .ref 0)]) rfl ?_
  refine zm_goto 6 dX8_pathsNow_87 (by decide) ?_
  refine zm_sub [1, 0] rfl ?_
  exact k
theorem gX8_pathsNow_90 {d : Nat} {Q : Value → zm_S → Prop} {w : zm_S} {Q' : Value → zm_S → Prop} (hC : zm_C zd_H d mX8_whole [.ref 0] w Q') (k : ∀ (r : Int32) (u : zm_S), Q' (.int r) u → zm_T zd_H (d + 1) mX8_pathsNow Q 98 [] [.int r, .ref 17] u) : zm_T zd_H (d + 1) mX8_pathsNow Q 90 [(0, .ref 0)] [] w := by
  refine zm_aload_n (x := 0) 0 dX8_pathsNow_90 rfl rfl ?_
  refine zm_getf (v := .ref 17) (j := 23) dX8_pathsNow_91 clX8 flX8_58 (Nat.le_of_ble_eq_true rfl) zd_H0 rfl rfl ?_
  refine zm_aload_n (x := 0) 0 dX8_pathsNow_94 rfl rfl ?_
  refine zm_callVi (as := []) (rest := [.ref 17]) dX8_pathsNow_95 rfl mtX8_whole lkX8_228 zd_H0 (C := RX8) rfl rfl rfl (Nat.le_of_ble_eq_true rfl) hC rfl (fun r u hq => ?_)
  refine zm_sub [] rfl ?_
  exact k r u hq
theorem gX8_pathsNow_98 {d : Nat} {Q : Value → zm_S → Prop} {w : zm_S} {s0 : Int32} (hi98 : vp_in s0 128) (k : Q (.int (w.1 17 (s0).toNatClampNeg)) w) : zm_T zd_H d mX8_pathsNow Q 98 [] [.int s0, .ref 17] w := by
  refine zm_iald dX8_pathsNow_98 zd_H17 hi98 ?_
  exact zm_ireturn dX8_pathsNow_99 rfl k
theorem gX8_paths_0 {d : Nat} {Q : Value → zm_S → Prop} {w : zm_S} {Q' : Value → zm_S → Prop} (hC : zm_C zd_H d mX8_pathsNow [.ref 0] w Q') (k : ∀ (r : Int32) (u : zm_S), Q' (.int r) u → zm_T zd_H (d + 1) mX8_paths Q 4 [] [.int r] u) : zm_T zd_H (d + 1) mX8_paths Q 0 [(0, .ref 0)] [] w := by
  refine zm_aload_n (x := 0) 0 dX8_paths_0 rfl rfl ?_
  refine zm_callVi (as := []) (rest := []) dX8_paths_1 rfl mtX8_pathsNow lkX8_270 zd_H0 (C := RX8) rfl rfl rfl (Nat.le_of_ble_eq_true rfl) hC rfl (fun r u hq => ?_)
  refine zm_sub [] rfl ?_
  exact k r u hq
theorem gX8_paths_4 {d : Nat} {Q : Value → zm_S → Prop} {w : zm_S} {s0 : Int32} (k : Q (.int s0) w) : zm_T zd_H d mX8_paths Q 4 [] [.int s0] w := by
  exact zm_ireturn dX8_paths_4 rfl k
theorem gX8_deepOf_0 {d : Nat} {Q : Value → zm_S → Prop} {w : zm_S} {a1 : Int32} {Q' : Value → zm_S → Prop} (hC : zm_C zd_H d mX8_findNeeds [.ref 0] w Q') (k : ∀ (u : zm_S), Q' .null u → zm_T zd_H (d + 1) mX8_deepOf Q 4 [(0, .ref 0), (1, .int a1)] [] u) : zm_T zd_H (d + 1) mX8_deepOf Q 0 [(0, .ref 0), (1, .int a1)] [] w := by
  refine zm_aload_n (x := 0) 0 dX8_deepOf_0 rfl rfl ?_
  refine zm_callVv (as := []) (rest := []) dX8_deepOf_1 rfl mtX8_findNeeds lkX8_258 zd_H0 (C := RX8) rfl rfl rfl (Nat.le_of_ble_eq_true rfl) hC rfl (fun u hq => ?_)
  exact k u hq
theorem gX8_deepOf_4 {d : Nat} {Q : Value → zm_S → Prop} {w : zm_S} {a1 : Int32} (k : zm_T zd_H d mX8_deepOf Q 10 [(0, .ref 0), (1, .int a1), (2, .int (10000 : Int32)), (3, .int (0 : Int32))] [] w) : zm_T zd_H d mX8_deepOf Q 4 [(0, .ref 0), (1, .int a1)] [] w := by
  refine zm_sipush dX8_deepOf_4 (v := (10000 : Int32)) (by decide) ?_
  refine zm_istore_n dX8_deepOf_7 rfl (Nat.le_of_ble_eq_true rfl) (ls' := [(2, .int (10000 : Int32)), (0, .ref 0), (1, .int a1)]) rfl ?_
  refine zm_iconst dX8_deepOf_8 (v := (0 : Int32)) (by decide) ?_
  refine zm_istore_n dX8_deepOf_9 rfl (Nat.le_of_ble_eq_true rfl) (ls' := [(3, .int (0 : Int32)), (2, .int (10000 : Int32)), (0, .ref 0), (1, .int a1)]) rfl ?_
  refine zm_sub [2, 3, 1, 0] rfl ?_
  exact k
theorem gX8_deepOf_10 {d : Nat} {Q : Value → zm_S → Prop} {w : zm_S} {a1 : Int32} {a2 : Int32} {a3 : Int32} {Q' : Value → zm_S → Prop} (hC : zm_C zd_H d mX8_whole [.ref 0] w Q') (k : ∀ (r : Int32) (u : zm_S), Q' (.int r) u → zm_T zd_H (d + 1) mX8_deepOf Q 15 [(0, .ref 0), (1, .int a1), (2, .int a2), (3, .int a3)] [.int r, .int a3] u) : zm_T zd_H (d + 1) mX8_deepOf Q 10 [(0, .ref 0), (1, .int a1), (2, .int a2), (3, .int a3)] [] w := by
  refine zm_iload_n (x := a3) 3 dX8_deepOf_10 rfl rfl ?_
  refine zm_aload_n (x := 0) 0 dX8_deepOf_11 rfl rfl ?_
  refine zm_callVi (as := []) (rest := [.int a3]) dX8_deepOf_12 rfl mtX8_whole lkX8_228 zd_H0 (C := RX8) rfl rfl rfl (Nat.le_of_ble_eq_true rfl) hC rfl (fun r u hq => ?_)
  exact k r u hq
theorem gX8_deepOf_15 {d : Nat} {Q : Value → zm_S → Prop} {w : zm_S} {a1 : Int32} {a2 : Int32} {a3 : Int32} {s0 : Int32} {s1 : Int32} (kt : s0 < s1 → zm_T zd_H d mX8_deepOf Q 57 [(2, .int a2)] [] w) (kf : ¬ s0 < s1 → zm_T zd_H d mX8_deepOf Q 18 [(0, .ref 0), (1, .int a1), (2, .int a2), (3, .int a3)] [] w) : zm_T zd_H d mX8_deepOf Q 15 [(0, .ref 0), (1, .int a1), (2, .int a2), (3, .int a3)] [.int s0, .int s1] w := by
  refine zm_icmp_gt 57 dX8_deepOf_15 (by decide) (fun h => ?_) (fun h => ?_)
  · refine zm_sub [2] rfl ?_
    exact kt h
  · exact kf h
theorem gX8_deepOf_18 {d : Nat} {Q : Value → zm_S → Prop} {w : zm_S} {a1 : Int32} {a2 : Int32} {a3 : Int32} {Q' : Value → zm_S → Prop} (hC : zm_C zd_H d mX8_isIn [.int a3, .int a1] w Q') (k : ∀ (r : Int32) (u : zm_S), Q' (.int r) u → zm_T zd_H (d + 1) mX8_deepOf Q 23 [(0, .ref 0), (1, .int a1), (2, .int a2), (3, .int a3)] [.int r] u) : zm_T zd_H (d + 1) mX8_deepOf Q 18 [(0, .ref 0), (1, .int a1), (2, .int a2), (3, .int a3)] [] w := by
  refine zm_iload_n (x := a3) 3 dX8_deepOf_18 rfl rfl ?_
  refine zm_iload_n (x := a1) 1 dX8_deepOf_19 rfl rfl ?_
  refine zm_callSz (as := [.int a3, .int a1]) (rest := []) dX8_deepOf_20 rfl mtX8_isIn lkX8_153 rfl (Nat.le_of_ble_eq_true rfl) hC rfl (fun r u hq => ?_)
  exact k r u hq
theorem gX8_deepOf_23 {d : Nat} {Q : Value → zm_S → Prop} {w : zm_S} {a1 : Int32} {a2 : Int32} {a3 : Int32} {s0 : Int32} (kt : s0 = 0 → zm_T zd_H d mX8_deepOf Q 49 [(0, .ref 0), (1, .int a1), (2, .int a2), (3, .int a3)] [] w) (kf : ¬ s0 = 0 → zm_T zd_H d mX8_deepOf Q 26 [(0, .ref 0), (1, .int a1), (2, .int a2), (3, .int a3)] [] w) : zm_T zd_H d mX8_deepOf Q 23 [(0, .ref 0), (1, .int a1), (2, .int a2), (3, .int a3)] [.int s0] w := by
  refine zm_if_eq 49 dX8_deepOf_23 (by decide) (fun h => ?_) (fun h => ?_)
  · exact kt h
  · exact kf h
theorem gX8_deepOf_26 {d : Nat} {Q : Value → zm_S → Prop} {w : zm_S} {a1 : Int32} {a2 : Int32} {a3 : Int32} {Q' : Value → zm_S → Prop} (hC : zm_C zd_H d mX8_isState [.ref 0, .int a3] w Q') (k : ∀ (r : Int32) (u : zm_S), Q' (.int r) u → zm_T zd_H (d + 1) mX8_deepOf Q 31 [(0, .ref 0), (1, .int a1), (2, .int a2), (3, .int a3)] [.int r] u) : zm_T zd_H (d + 1) mX8_deepOf Q 26 [(0, .ref 0), (1, .int a1), (2, .int a2), (3, .int a3)] [] w := by
  refine zm_aload_n (x := 0) 0 dX8_deepOf_26 rfl rfl ?_
  refine zm_iload_n (x := a3) 3 dX8_deepOf_27 rfl rfl ?_
  refine zm_callVz (as := [.int a3]) (rest := []) dX8_deepOf_28 rfl mtX8_isState lkX8_261 zd_H0 (C := RX8) rfl rfl rfl (Nat.le_of_ble_eq_true rfl) hC rfl (fun r u hq => ?_)
  exact k r u hq
theorem gX8_deepOf_31 {d : Nat} {Q : Value → zm_S → Prop} {w : zm_S} {a1 : Int32} {a2 : Int32} {a3 : Int32} {s0 : Int32} (kt : s0 = 0 → zm_T zd_H d mX8_deepOf Q 49 [(0, .ref 0), (1, .int a1), (2, .int a2), (3, .int a3)] [] w) (kf : ¬ s0 = 0 → zm_T zd_H d mX8_deepOf Q 34 [(0, .ref 0), (1, .int a1), (2, .int a2), (3, .int a3)] [] w) : zm_T zd_H d mX8_deepOf Q 31 [(0, .ref 0), (1, .int a1), (2, .int a2), (3, .int a3)] [.int s0] w := by
  refine zm_if_eq 49 dX8_deepOf_31 (by decide) (fun h => ?_) (fun h => ?_)
  · exact kt h
  · exact kf h
theorem gX8_deepOf_34 {d : Nat} {Q : Value → zm_S → Prop} {w : zm_S} {a1 : Int32} {a2 : Int32} {a3 : Int32} {Q' : Value → zm_S → Prop} (hC : zm_C zd_H d mX8_ones [.int a3] w Q') (k : ∀ (r : Int32) (u : zm_S), Q' (.int r) u → zm_T zd_H (d + 1) mX8_deepOf Q 38 [(0, .ref 0), (1, .int a1), (2, .int a2), (3, .int a3)] [.int r] u) : zm_T zd_H (d + 1) mX8_deepOf Q 34 [(0, .ref 0), (1, .int a1), (2, .int a2), (3, .int a3)] [] w := by
  refine zm_iload_n (x := a3) 3 dX8_deepOf_34 rfl rfl ?_
  refine zm_callSi (as := [.int a3]) (rest := []) dX8_deepOf_35 rfl mtX8_ones lkX8_192 rfl (Nat.le_of_ble_eq_true rfl) hC rfl (fun r u hq => ?_)
  exact k r u hq
theorem gX8_deepOf_38 {d : Nat} {Q : Value → zm_S → Prop} {w : zm_S} {a1 : Int32} {a2 : Int32} {a3 : Int32} {s0 : Int32} (kt : a2 ≤ s0 → zm_T zd_H d mX8_deepOf Q 49 [(0, .ref 0), (1, .int a1), (2, .int a2), (3, .int a3)] [] w) (kf : ¬ a2 ≤ s0 → zm_T zd_H d mX8_deepOf Q 42 [(0, .ref 0), (1, .int a1), (3, .int a3)] [] w) : zm_T zd_H d mX8_deepOf Q 38 [(0, .ref 0), (1, .int a1), (2, .int a2), (3, .int a3)] [.int s0] w := by
  refine zm_iload_n (x := a2) 2 dX8_deepOf_38 rfl rfl ?_
  refine zm_icmp_ge 49 dX8_deepOf_39 (by decide) (fun h => ?_) (fun h => ?_)
  · exact kt h
  · refine zm_sub [0, 1, 3] rfl ?_
    exact kf h
theorem gX8_deepOf_42 {d : Nat} {Q : Value → zm_S → Prop} {w : zm_S} {a1 : Int32} {a3 : Int32} {Q' : Value → zm_S → Prop} (hC : zm_C zd_H d mX8_ones [.int a3] w Q') (k : ∀ (r : Int32) (u : zm_S), Q' (.int r) u → zm_T zd_H (d + 1) mX8_deepOf Q 46 [(0, .ref 0), (1, .int a1), (3, .int a3)] [.int r] u) : zm_T zd_H (d + 1) mX8_deepOf Q 42 [(0, .ref 0), (1, .int a1), (3, .int a3)] [] w := by
  refine zm_iload_n (x := a3) 2 dX8_deepOf_42 rfl rfl ?_
  refine zm_callSi (as := [.int a3]) (rest := []) dX8_deepOf_43 rfl mtX8_ones lkX8_192 rfl (Nat.le_of_ble_eq_true rfl) hC rfl (fun r u hq => ?_)
  exact k r u hq
theorem gX8_deepOf_46 {d : Nat} {Q : Value → zm_S → Prop} {w : zm_S} {a1 : Int32} {a3 : Int32} {s0 : Int32} (k : zm_T zd_H d mX8_deepOf Q 50 [(0, .ref 0), (1, .int a1), (3, .int a3)] [.int s0] w) : zm_T zd_H d mX8_deepOf Q 46 [(0, .ref 0), (1, .int a1), (3, .int a3)] [.int s0] w := by
  refine zm_goto 50 dX8_deepOf_46 (by decide) ?_
  exact k
theorem gX8_deepOf_49 {d : Nat} {Q : Value → zm_S → Prop} {w : zm_S} {a1 : Int32} {a2 : Int32} {a3 : Int32} (k : zm_T zd_H d mX8_deepOf Q 50 [(0, .ref 0), (1, .int a1), (3, .int a3)] [.int a2] w) : zm_T zd_H d mX8_deepOf Q 49 [(0, .ref 0), (1, .int a1), (2, .int a2), (3, .int a3)] [] w := by
  refine zm_iload_n (x := a2) 2 dX8_deepOf_49 rfl rfl ?_
  refine zm_sub [0, 1, 3] rfl ?_
  exact k
theorem gX8_deepOf_50 {d : Nat} {Q : Value → zm_S → Prop} {w : zm_S} {a1 : Int32} {a3 : Int32} {s0 : Int32} (k : zm_T zd_H d mX8_deepOf Q 10 [(0, .ref 0), (1, .int a1), (2, .int s0), (3, .int (a3 + (1 : Int32)))] [] w) : zm_T zd_H d mX8_deepOf Q 50 [(0, .ref 0), (1, .int a1), (3, .int a3)] [.int s0] w := by
  refine zm_istore_n dX8_deepOf_50 rfl (Nat.le_of_ble_eq_true rfl) (ls' := [(2, .int s0), (0, .ref 0), (1, .int a1), (3, .int a3)]) rfl ?_
  refine zm_iinc 3 dX8_deepOf_51 (x := a3) (v := (a3 + (1 : Int32))) rfl rfl (Nat.le_of_ble_eq_true rfl) (ls' := [(3, .int (a3 + (1 : Int32))), (2, .int s0), (0, .ref 0), (1, .int a1)]) rfl ?_
  refine zm_goto 10 dX8_deepOf_54 (by decide) ?_
  refine zm_sub [2, 3, 1, 0] rfl ?_
  exact k
theorem gX8_deepOf_57 {d : Nat} {Q : Value → zm_S → Prop} {w : zm_S} {a2 : Int32} (k : Q (.int a2) w) : zm_T zd_H d mX8_deepOf Q 57 [(2, .int a2)] [] w := by
  refine zm_iload_n (x := a2) 0 dX8_deepOf_57 rfl rfl ?_
  exact zm_ireturn dX8_deepOf_58 rfl k
theorem gX8_deep_0 {d : Nat} {Q : Value → zm_S → Prop} {w : zm_S} {a1 : Int32} {Q' : Value → zm_S → Prop} (hC : zm_C zd_H d mX8_isQuestion [.ref 0, .int a1] w Q') (k : ∀ (r : Int32) (u : zm_S), Q' (.int r) u → zm_T zd_H (d + 1) mX8_deep Q 5 [(0, .ref 0), (1, .int a1)] [.int r] u) : zm_T zd_H (d + 1) mX8_deep Q 0 [(0, .ref 0), (1, .int a1)] [] w := by
  refine zm_aload_n (x := 0) 0 dX8_deep_0 rfl rfl ?_
  refine zm_iload_n (x := a1) 1 dX8_deep_1 rfl rfl ?_
  refine zm_callVz (as := [.int a1]) (rest := []) dX8_deep_2 rfl mtX8_isQuestion lkX8_176 zd_H0 (C := RX8) rfl rfl rfl (Nat.le_of_ble_eq_true rfl) hC rfl (fun r u hq => ?_)
  exact k r u hq
theorem gX8_deep_5 {d : Nat} {Q : Value → zm_S → Prop} {w : zm_S} {a1 : Int32} {s0 : Int32} (kt : s0 = 0 → zm_T zd_H d mX8_deep Q 16 [] [] w) (kf : ¬ s0 = 0 → zm_T zd_H d mX8_deep Q 8 [(0, .ref 0), (1, .int a1)] [] w) : zm_T zd_H d mX8_deep Q 5 [(0, .ref 0), (1, .int a1)] [.int s0] w := by
  refine zm_if_eq 16 dX8_deep_5 (by decide) (fun h => ?_) (fun h => ?_)
  · refine zm_sub [] rfl ?_
    exact kt h
  · exact kf h
theorem gX8_deep_8 {d : Nat} {Q : Value → zm_S → Prop} {w : zm_S} {a1 : Int32} {Q' : Value → zm_S → Prop} (hC : zm_C zd_H d mX8_deepOf [.ref 0, .int a1] w Q') (k : ∀ (r : Int32) (u : zm_S), Q' (.int r) u → zm_T zd_H (d + 1) mX8_deep Q 13 [] [.int r] u) : zm_T zd_H (d + 1) mX8_deep Q 8 [(0, .ref 0), (1, .int a1)] [] w := by
  refine zm_aload_n (x := 0) 0 dX8_deep_8 rfl rfl ?_
  refine zm_iload_n (x := a1) 1 dX8_deep_9 rfl rfl ?_
  refine zm_callVi (as := [.int a1]) (rest := []) dX8_deep_10 rfl mtX8_deepOf lkX8_273 zd_H0 (C := RX8) rfl rfl rfl (Nat.le_of_ble_eq_true rfl) hC rfl (fun r u hq => ?_)
  refine zm_sub [] rfl ?_
  exact k r u hq
theorem gX8_deep_13 {d : Nat} {Q : Value → zm_S → Prop} {w : zm_S} {s0 : Int32} (k : Q (.int s0) w) : zm_T zd_H d mX8_deep Q 13 [] [.int s0] w := by
  refine zm_goto 18 dX8_deep_13 (by decide) ?_
  exact zm_ireturn dX8_deep_18 rfl k
theorem gX8_deep_16 {d : Nat} {Q : Value → zm_S → Prop} {w : zm_S} (k : Q (.int (-2 : Int32)) w) : zm_T zd_H d mX8_deep Q 16 [] [] w := by
  refine zm_bipush dX8_deep_16 (v := (-2 : Int32)) (by decide) ?_
  exact zm_ireturn dX8_deep_18 rfl k
theorem gX8_byAsking_0 {d : Nat} {Q : Value → zm_S → Prop} {w : zm_S} {a1 : Int32} {a2 : Int32} (hi6 : vp_in a1 7) (hi15 : vp_in a1 7) (kt : (a2 &&& (w.1 19 (a1).toNatClampNeg)) = 0 → zm_T zd_H d mX8_byAsking Q 30 [] [] w) (kf : ¬ (a2 &&& (w.1 19 (a1).toNatClampNeg)) = 0 → zm_T zd_H d mX8_byAsking Q 25 [(0, .ref 0), (3, .int (a2 &&& (w.1 19 (a1).toNatClampNeg))), (4, .int (a2 &&& ((w.1 19 (a1).toNatClampNeg) ^^^ (-1 : Int32))))] [] w) : zm_T zd_H d mX8_byAsking Q 0 [(0, .ref 0), (1, .int a1), (2, .int a2)] [] w := by
  refine zm_iload_n (x := a2) 2 dX8_byAsking_0 rfl rfl ?_
  refine zm_aload_n (x := 0) 0 dX8_byAsking_1 rfl rfl ?_
  refine zm_getf (v := .ref 19) (j := 25) dX8_byAsking_2 clX8 flX8_64 (Nat.le_of_ble_eq_true rfl) zd_H0 rfl rfl ?_
  refine zm_iload_n (x := a1) 1 dX8_byAsking_5 rfl rfl ?_
  refine zm_iald dX8_byAsking_6 zd_H19 hi6 ?_
  refine zm_iand dX8_byAsking_7 ?_
  refine zm_istore_n dX8_byAsking_8 rfl (Nat.le_of_ble_eq_true rfl) (ls' := [(3, .int (a2 &&& (w.1 19 (a1).toNatClampNeg))), (0, .ref 0), (1, .int a1), (2, .int a2)]) rfl ?_
  refine zm_iload_n (x := a2) 3 dX8_byAsking_9 rfl rfl ?_
  refine zm_aload_n (x := 0) 1 dX8_byAsking_10 rfl rfl ?_
  refine zm_getf (v := .ref 19) (j := 25) dX8_byAsking_11 clX8 flX8_64 (Nat.le_of_ble_eq_true rfl) zd_H0 rfl rfl ?_
  refine zm_iload_n (x := a1) 2 dX8_byAsking_14 rfl rfl ?_
  refine zm_iald dX8_byAsking_15 zd_H19 hi15 ?_
  refine zm_iconst dX8_byAsking_16 (v := (-1 : Int32)) (by decide) ?_
  refine zm_ixor dX8_byAsking_17 ?_
  refine zm_iand dX8_byAsking_18 ?_
  refine zm_istore dX8_byAsking_19 (Nat.le_of_ble_eq_true rfl) (ls' := [(4, .int (a2 &&& ((w.1 19 (a1).toNatClampNeg) ^^^ (-1 : Int32)))), (3, .int (a2 &&& (w.1 19 (a1).toNatClampNeg))), (0, .ref 0), (1, .int a1), (2, .int a2)]) rfl ?_
  refine zm_iload_n (x := (a2 &&& (w.1 19 (a1).toNatClampNeg))) 1 dX8_byAsking_21 rfl rfl ?_
  refine zm_if_eq 30 dX8_byAsking_22 (by decide) (fun h => ?_) (fun h => ?_)
  · refine zm_sub [] rfl ?_
    exact kt h
  · refine zm_sub [2, 1, 0] rfl ?_
    exact kf h
theorem gX8_byAsking_25 {d : Nat} {Q : Value → zm_S → Prop} {w : zm_S} {a3 : Int32} {a4 : Int32} (kt : ¬ a4 = 0 → zm_T zd_H d mX8_byAsking Q 34 [(0, .ref 0), (3, .int a3), (4, .int a4)] [] w) (kf : a4 = 0 → zm_T zd_H d mX8_byAsking Q 30 [] [] w) : zm_T zd_H d mX8_byAsking Q 25 [(0, .ref 0), (3, .int a3), (4, .int a4)] [] w := by
  refine zm_iload (x := a4) 2 dX8_byAsking_25 rfl ?_
  refine zm_if_ne 34 dX8_byAsking_27 (by decide) (fun h => ?_) (fun h => ?_)
  · exact kt h
  · refine zm_sub [] rfl ?_
    exact kf h
theorem gX8_byAsking_30 {d : Nat} {Q : Value → zm_S → Prop} {w : zm_S} (k : Q (.int (10000 : Int32)) w) : zm_T zd_H d mX8_byAsking Q 30 [] [] w := by
  refine zm_sipush dX8_byAsking_30 (v := (10000 : Int32)) (by decide) ?_
  exact zm_ireturn dX8_byAsking_33 rfl k
theorem gX8_byAsking_34 {d : Nat} {Q : Value → zm_S → Prop} {w : zm_S} {a3 : Int32} {a4 : Int32} (hi40 : vp_in a3 16384) (hi47 : vp_in a4 16384) (kt : (w.1 20 (a3).toNatClampNeg) ≤ (w.1 20 (a4).toNatClampNeg) → zm_T zd_H d mX8_byAsking Q 60 [(0, .ref 0), (4, .int a4)] [.int (1 : Int32)] w) (kf : ¬ (w.1 20 (a3).toNatClampNeg) ≤ (w.1 20 (a4).toNatClampNeg) → zm_T zd_H d mX8_byAsking Q 51 [(0, .ref 0), (3, .int a3)] [.int (1 : Int32)] w) : zm_T zd_H d mX8_byAsking Q 34 [(0, .ref 0), (3, .int a3), (4, .int a4)] [] w := by
  refine zm_iconst dX8_byAsking_34 (v := (1 : Int32)) (by decide) ?_
  refine zm_aload_n (x := 0) 0 dX8_byAsking_35 rfl rfl ?_
  refine zm_getf (v := .ref 20) (j := 26) dX8_byAsking_36 clX8 flX8_67 (Nat.le_of_ble_eq_true rfl) zd_H0 rfl rfl ?_
  refine zm_iload_n (x := a3) 1 dX8_byAsking_39 rfl rfl ?_
  refine zm_iald dX8_byAsking_40 zd_H20 hi40 ?_
  refine zm_aload_n (x := 0) 0 dX8_byAsking_41 rfl rfl ?_
  refine zm_getf (v := .ref 20) (j := 26) dX8_byAsking_42 clX8 flX8_67 (Nat.le_of_ble_eq_true rfl) zd_H0 rfl rfl ?_
  refine zm_iload (x := a4) 2 dX8_byAsking_45 rfl ?_
  refine zm_iald dX8_byAsking_47 zd_H20 hi47 ?_
  refine zm_icmp_le 60 dX8_byAsking_48 (by decide) (fun h => ?_) (fun h => ?_)
  · refine zm_sub [0, 2] rfl ?_
    exact kt h
  · refine zm_sub [0, 1] rfl ?_
    exact kf h
theorem gX8_byAsking_51 {d : Nat} {Q : Value → zm_S → Prop} {w : zm_S} {a3 : Int32} {s0 : Int32} (hi56 : vp_in a3 16384) (k : zm_T zd_H d mX8_byAsking Q 67 [] [.int (w.1 20 (a3).toNatClampNeg), .int s0] w) : zm_T zd_H d mX8_byAsking Q 51 [(0, .ref 0), (3, .int a3)] [.int s0] w := by
  refine zm_aload_n (x := 0) 0 dX8_byAsking_51 rfl rfl ?_
  refine zm_getf (v := .ref 20) (j := 26) dX8_byAsking_52 clX8 flX8_67 (Nat.le_of_ble_eq_true rfl) zd_H0 rfl rfl ?_
  refine zm_iload_n (x := a3) 1 dX8_byAsking_55 rfl rfl ?_
  refine zm_iald dX8_byAsking_56 zd_H20 hi56 ?_
  refine zm_goto 67 dX8_byAsking_57 (by decide) ?_
  refine zm_sub [] rfl ?_
  exact k
theorem gX8_byAsking_60 {d : Nat} {Q : Value → zm_S → Prop} {w : zm_S} {a4 : Int32} {s0 : Int32} (hi66 : vp_in a4 16384) (k : zm_T zd_H d mX8_byAsking Q 67 [] [.int (w.1 20 (a4).toNatClampNeg), .int s0] w) : zm_T zd_H d mX8_byAsking Q 60 [(0, .ref 0), (4, .int a4)] [.int s0] w := by
  refine zm_aload_n (x := 0) 0 dX8_byAsking_60 rfl rfl ?_
  refine zm_getf (v := .ref 20) (j := 26) dX8_byAsking_61 clX8 flX8_67 (Nat.le_of_ble_eq_true rfl) zd_H0 rfl rfl ?_
  refine zm_iload (x := a4) 1 dX8_byAsking_64 rfl ?_
  refine zm_iald dX8_byAsking_66 zd_H20 hi66 ?_
  refine zm_sub [] rfl ?_
  exact k
theorem gX8_byAsking_67 {d : Nat} {Q : Value → zm_S → Prop} {w : zm_S} {s0 : Int32} {s1 : Int32} (k : Q (.int (s1 + s0)) w) : zm_T zd_H d mX8_byAsking Q 67 [] [.int s0, .int s1] w := by
  refine zm_iadd dX8_byAsking_67 ?_
  exact zm_ireturn dX8_byAsking_68 rfl k
theorem gX8_sureOf_0 {d : Nat} {Q : Value → zm_S → Prop} {w : zm_S} {a1 : Int32} {a2 : Int32} {a3 : Int32} {Q' : Value → zm_S → Prop} (hC : zm_C zd_H d mX8_findNeeds [.ref 0] w Q') (k : ∀ (u : zm_S), Q' .null u → zm_T zd_H (d + 1) mX8_sureOf Q 4 [(0, .ref 0), (1, .int a1), (2, .int a2), (3, .int a3)] [] u) : zm_T zd_H (d + 1) mX8_sureOf Q 0 [(0, .ref 0), (1, .int a1), (2, .int a2), (3, .int a3)] [] w := by
  refine zm_aload_n (x := 0) 0 dX8_sureOf_0 rfl rfl ?_
  refine zm_callVv (as := []) (rest := []) dX8_sureOf_1 rfl mtX8_findNeeds lkX8_258 zd_H0 (C := RX8) rfl rfl rfl (Nat.le_of_ble_eq_true rfl) hC rfl (fun u hq => ?_)
  exact k u hq
theorem gX8_sureOf_4 {d : Nat} {Q : Value → zm_S → Prop} {w : zm_S} {a1 : Int32} {a2 : Int32} {a3 : Int32} (k : zm_T zd_H d mX8_sureOf Q 10 [(0, .ref 0), (1, .int a1), (2, .int a2), (3, .int a3), (4, .int (0 : Int32)), (5, .int (0 : Int32))] [] w) : zm_T zd_H d mX8_sureOf Q 4 [(0, .ref 0), (1, .int a1), (2, .int a2), (3, .int a3)] [] w := by
  refine zm_iconst dX8_sureOf_4 (v := (0 : Int32)) (by decide) ?_
  refine zm_istore dX8_sureOf_5 (Nat.le_of_ble_eq_true rfl) (ls' := [(4, .int (0 : Int32)), (0, .ref 0), (1, .int a1), (2, .int a2), (3, .int a3)]) rfl ?_
  refine zm_iconst dX8_sureOf_7 (v := (0 : Int32)) (by decide) ?_
  refine zm_istore dX8_sureOf_8 (Nat.le_of_ble_eq_true rfl) (ls' := [(5, .int (0 : Int32)), (4, .int (0 : Int32)), (0, .ref 0), (1, .int a1), (2, .int a2), (3, .int a3)]) rfl ?_
  refine zm_sub [2, 3, 4, 5, 1, 0] rfl ?_
  exact k
theorem gX8_sureOf_10 {d : Nat} {Q : Value → zm_S → Prop} {w : zm_S} {a1 : Int32} {a2 : Int32} {a3 : Int32} {a4 : Int32} {a5 : Int32} {Q' : Value → zm_S → Prop} (hC : zm_C zd_H d mX8_whole [.ref 0] w Q') (k : ∀ (r : Int32) (u : zm_S), Q' (.int r) u → zm_T zd_H (d + 1) mX8_sureOf Q 16 [(0, .ref 0), (1, .int a1), (2, .int a2), (3, .int a3), (4, .int a4), (5, .int a5)] [.int r, .int a5] u) : zm_T zd_H (d + 1) mX8_sureOf Q 10 [(0, .ref 0), (1, .int a1), (2, .int a2), (3, .int a3), (4, .int a4), (5, .int a5)] [] w := by
  refine zm_iload (x := a5) 5 dX8_sureOf_10 rfl ?_
  refine zm_aload_n (x := 0) 0 dX8_sureOf_12 rfl rfl ?_
  refine zm_callVi (as := []) (rest := [.int a5]) dX8_sureOf_13 rfl mtX8_whole lkX8_228 zd_H0 (C := RX8) rfl rfl rfl (Nat.le_of_ble_eq_true rfl) hC rfl (fun r u hq => ?_)
  exact k r u hq
theorem gX8_sureOf_16 {d : Nat} {Q : Value → zm_S → Prop} {w : zm_S} {a1 : Int32} {a2 : Int32} {a3 : Int32} {a4 : Int32} {a5 : Int32} {s0 : Int32} {s1 : Int32} (kt : s0 < s1 → zm_T zd_H d mX8_sureOf Q 74 [(0, .ref 0), (3, .int a3), (4, .int a4)] [] w) (kf : ¬ s0 < s1 → zm_T zd_H d mX8_sureOf Q 19 [(0, .ref 0), (1, .int a1), (2, .int a2), (3, .int a3), (4, .int a4), (5, .int a5)] [] w) : zm_T zd_H d mX8_sureOf Q 16 [(0, .ref 0), (1, .int a1), (2, .int a2), (3, .int a3), (4, .int a4), (5, .int a5)] [.int s0, .int s1] w := by
  refine zm_icmp_gt 74 dX8_sureOf_16 (by decide) (fun h => ?_) (fun h => ?_)
  · refine zm_sub [0, 3, 4] rfl ?_
    exact kt h
  · exact kf h
theorem gX8_sureOf_19 {d : Nat} {Q : Value → zm_S → Prop} {w : zm_S} {a1 : Int32} {a2 : Int32} {a3 : Int32} {a4 : Int32} {a5 : Int32} {Q' : Value → zm_S → Prop} (hC : zm_C zd_H d mX8_isState [.ref 0, .int a5] w Q') (k : ∀ (r : Int32) (u : zm_S), Q' (.int r) u → zm_T zd_H (d + 1) mX8_sureOf Q 25 [(0, .ref 0), (1, .int a1), (2, .int a2), (3, .int a3), (4, .int a4), (5, .int a5)] [.int r] u) : zm_T zd_H (d + 1) mX8_sureOf Q 19 [(0, .ref 0), (1, .int a1), (2, .int a2), (3, .int a3), (4, .int a4), (5, .int a5)] [] w := by
  refine zm_aload_n (x := 0) 0 dX8_sureOf_19 rfl rfl ?_
  refine zm_iload (x := a5) 5 dX8_sureOf_20 rfl ?_
  refine zm_callVz (as := [.int a5]) (rest := []) dX8_sureOf_22 rfl mtX8_isState lkX8_261 zd_H0 (C := RX8) rfl rfl rfl (Nat.le_of_ble_eq_true rfl) hC rfl (fun r u hq => ?_)
  exact k r u hq
theorem gX8_sureOf_25 {d : Nat} {Q : Value → zm_S → Prop} {w : zm_S} {a1 : Int32} {a2 : Int32} {a3 : Int32} {a4 : Int32} {a5 : Int32} {s0 : Int32} (kt : s0 = 0 → zm_T zd_H d mX8_sureOf Q 68 [(0, .ref 0), (1, .int a1), (2, .int a2), (3, .int a3), (4, .int a4), (5, .int a5)] [] w) (kf : ¬ s0 = 0 → zm_T zd_H d mX8_sureOf Q 28 [(0, .ref 0), (1, .int a1), (2, .int a2), (3, .int a3), (4, .int a4), (5, .int a5)] [] w) : zm_T zd_H d mX8_sureOf Q 25 [(0, .ref 0), (1, .int a1), (2, .int a2), (3, .int a3), (4, .int a4), (5, .int a5)] [.int s0] w := by
  refine zm_if_eq 68 dX8_sureOf_25 (by decide) (fun h => ?_) (fun h => ?_)
  · exact kt h
  · exact kf h
theorem gX8_sureOf_28 {d : Nat} {Q : Value → zm_S → Prop} {w : zm_S} {a1 : Int32} {a2 : Int32} {a3 : Int32} {a4 : Int32} {a5 : Int32} {Q' : Value → zm_S → Prop} (hC : zm_C zd_H d mX8_whole [.ref 0] w Q') (k : ∀ (r : Int32) (u : zm_S), Q' (.int r) u → zm_T zd_H (d + 1) mX8_sureOf Q 33 [(0, .ref 0), (1, .int a1), (2, .int a2), (3, .int a3), (4, .int a4), (5, .int a5)] [.int r, .int a1] u) : zm_T zd_H (d + 1) mX8_sureOf Q 28 [(0, .ref 0), (1, .int a1), (2, .int a2), (3, .int a3), (4, .int a4), (5, .int a5)] [] w := by
  refine zm_iload_n (x := a1) 1 dX8_sureOf_28 rfl rfl ?_
  refine zm_aload_n (x := 0) 0 dX8_sureOf_29 rfl rfl ?_
  refine zm_callVi (as := []) (rest := [.int a1]) dX8_sureOf_30 rfl mtX8_whole lkX8_228 zd_H0 (C := RX8) rfl rfl rfl (Nat.le_of_ble_eq_true rfl) hC rfl (fun r u hq => ?_)
  exact k r u hq
theorem gX8_sureOf_33 {d : Nat} {Q : Value → zm_S → Prop} {w : zm_S} {a1 : Int32} {a2 : Int32} {a3 : Int32} {a4 : Int32} {a5 : Int32} {s0 : Int32} {s1 : Int32} (kt : ¬ ((s1 &&& s0) &&& (a5 ^^^ (-1 : Int32))) = 0 → zm_T zd_H d mX8_sureOf Q 68 [(0, .ref 0), (1, .int a1), (2, .int a2), (3, .int a3), (4, .int a4), (5, .int a5)] [] w) (kf : ((s1 &&& s0) &&& (a5 ^^^ (-1 : Int32))) = 0 → zm_T zd_H d mX8_sureOf Q 42 [(0, .ref 0), (1, .int a1), (2, .int a2), (3, .int a3), (4, .int a4), (5, .int a5)] [] w) : zm_T zd_H d mX8_sureOf Q 33 [(0, .ref 0), (1, .int a1), (2, .int a2), (3, .int a3), (4, .int a4), (5, .int a5)] [.int s0, .int s1] w := by
  refine zm_iand dX8_sureOf_33 ?_
  refine zm_iload (x := a5) 5 dX8_sureOf_34 rfl ?_
  refine zm_iconst dX8_sureOf_36 (v := (-1 : Int32)) (by decide) ?_
  refine zm_ixor dX8_sureOf_37 ?_
  refine zm_iand dX8_sureOf_38 ?_
  refine zm_if_ne 68 dX8_sureOf_39 (by decide) (fun h => ?_) (fun h => ?_)
  · exact kt h
  · exact kf h
theorem gX8_sureOf_42 {d : Nat} {Q : Value → zm_S → Prop} {w : zm_S} {a1 : Int32} {a2 : Int32} {a3 : Int32} {a4 : Int32} {a5 : Int32} (kt : ¬ (a2 &&& a5) = 0 → zm_T zd_H d mX8_sureOf Q 68 [(0, .ref 0), (1, .int a1), (2, .int a2), (3, .int a3), (4, .int a4), (5, .int a5)] [] w) (kf : (a2 &&& a5) = 0 → zm_T zd_H d mX8_sureOf Q 49 [(0, .ref 0), (1, .int a1), (2, .int a2), (3, .int a3), (4, .int a4), (5, .int a5)] [] w) : zm_T zd_H d mX8_sureOf Q 42 [(0, .ref 0), (1, .int a1), (2, .int a2), (3, .int a3), (4, .int a4), (5, .int a5)] [] w := by
  refine zm_iload_n (x := a2) 2 dX8_sureOf_42 rfl rfl ?_
  refine zm_iload (x := a5) 5 dX8_sureOf_43 rfl ?_
  refine zm_iand dX8_sureOf_45 ?_
  refine zm_if_ne 68 dX8_sureOf_46 (by decide) (fun h => ?_) (fun h => ?_)
  · exact kt h
  · exact kf h
theorem gX8_sureOf_49 {d : Nat} {Q : Value → zm_S → Prop} {w : zm_S} {a1 : Int32} {a2 : Int32} {a3 : Int32} {a4 : Int32} {a5 : Int32} (kt : (14 : Int32) ≤ a4 → zm_T zd_H d mX8_sureOf Q 65 [(0, .ref 0), (1, .int a1), (2, .int a2), (3, .int a3), (4, .int a4), (5, .int a5)] [] w) (kf : ¬ (14 : Int32) ≤ a4 → zm_T zd_H d mX8_sureOf Q 56 [(0, .ref 0), (1, .int a1), (2, .int a2), (3, .int a3), (4, .int a4), (5, .int a5)] [] w) : zm_T zd_H d mX8_sureOf Q 49 [(0, .ref 0), (1, .int a1), (2, .int a2), (3, .int a3), (4, .int a4), (5, .int a5)] [] w := by
  refine zm_iload (x := a4) 4 dX8_sureOf_49 rfl ?_
  refine zm_bipush dX8_sureOf_51 (v := (14 : Int32)) (by decide) ?_
  refine zm_icmp_ge 65 dX8_sureOf_53 (by decide) (fun h => ?_) (fun h => ?_)
  · exact kt h
  · exact kf h
theorem gX8_sureOf_56 {d : Nat} {Q : Value → zm_S → Prop} {w : zm_S} {a1 : Int32} {a2 : Int32} {a3 : Int32} {a4 : Int32} {a5 : Int32} (hi64 : vp_in a4 14) (k : zm_T zd_H d mX8_sureOf Q 65 [(0, .ref 0), (1, .int a1), (2, .int a2), (3, .int a3), (4, .int a4), (5, .int a5)] [] (zm_pi w 18 (a4).toNatClampNeg a5)) : zm_T zd_H d mX8_sureOf Q 56 [(0, .ref 0), (1, .int a1), (2, .int a2), (3, .int a3), (4, .int a4), (5, .int a5)] [] w := by
  refine zm_aload_n (x := 0) 0 dX8_sureOf_56 rfl rfl ?_
  refine zm_getf (v := .ref 18) (j := 24) dX8_sureOf_57 clX8 flX8_61 (Nat.le_of_ble_eq_true rfl) zd_H0 rfl rfl ?_
  refine zm_iload (x := a4) 4 dX8_sureOf_60 rfl ?_
  refine zm_iload (x := a5) 5 dX8_sureOf_62 rfl ?_
  refine zm_iast dX8_sureOf_64 zd_H18 hi64 ?_
  exact k
theorem gX8_sureOf_65 {d : Nat} {Q : Value → zm_S → Prop} {w : zm_S} {a1 : Int32} {a2 : Int32} {a3 : Int32} {a4 : Int32} {a5 : Int32} (k : zm_T zd_H d mX8_sureOf Q 68 [(0, .ref 0), (1, .int a1), (2, .int a2), (3, .int a3), (4, .int (a4 + (1 : Int32))), (5, .int a5)] [] w) : zm_T zd_H d mX8_sureOf Q 65 [(0, .ref 0), (1, .int a1), (2, .int a2), (3, .int a3), (4, .int a4), (5, .int a5)] [] w := by
  refine zm_iinc 4 dX8_sureOf_65 (x := a4) (v := (a4 + (1 : Int32))) rfl rfl (Nat.le_of_ble_eq_true rfl) (ls' := [(4, .int (a4 + (1 : Int32))), (0, .ref 0), (1, .int a1), (2, .int a2), (3, .int a3), (5, .int a5)]) rfl ?_
  refine zm_sub [1, 2, 3, 4, 0, 5] rfl ?_
  exact k
theorem gX8_sureOf_68 {d : Nat} {Q : Value → zm_S → Prop} {w : zm_S} {a1 : Int32} {a2 : Int32} {a3 : Int32} {a4 : Int32} {a5 : Int32} (k : zm_T zd_H d mX8_sureOf Q 10 [(0, .ref 0), (1, .int a1), (2, .int a2), (3, .int a3), (4, .int a4), (5, .int (a5 + (1 : Int32)))] [] w) : zm_T zd_H d mX8_sureOf Q 68 [(0, .ref 0), (1, .int a1), (2, .int a2), (3, .int a3), (4, .int a4), (5, .int a5)] [] w := by
  refine zm_iinc 5 dX8_sureOf_68 (x := a5) (v := (a5 + (1 : Int32))) rfl rfl (Nat.le_of_ble_eq_true rfl) (ls' := [(5, .int (a5 + (1 : Int32))), (0, .ref 0), (1, .int a1), (2, .int a2), (3, .int a3), (4, .int a4)]) rfl ?_
  refine zm_goto 10 dX8_sureOf_71 (by decide) ?_
  refine zm_sub [1, 2, 3, 4, 5, 0] rfl ?_
  exact k
theorem gX8_sureOf_74 {d : Nat} {Q : Value → zm_S → Prop} {w : zm_S} {a3 : Int32} {a4 : Int32} (kt : ¬ a4 = 0 → zm_T zd_H d mX8_sureOf Q 82 [(0, .ref 0), (3, .int a3), (4, .int a4)] [] w) (kf : a4 = 0 → zm_T zd_H d mX8_sureOf Q 79 [] [] w) : zm_T zd_H d mX8_sureOf Q 74 [(0, .ref 0), (3, .int a3), (4, .int a4)] [] w := by
  refine zm_iload (x := a4) 2 dX8_sureOf_74 rfl ?_
  refine zm_if_ne 82 dX8_sureOf_76 (by decide) (fun h => ?_) (fun h => ?_)
  · exact kt h
  · refine zm_sub [] rfl ?_
    exact kf h
theorem gX8_sureOf_79 {d : Nat} {Q : Value → zm_S → Prop} {w : zm_S} (k : Q (.int (-3 : Int32)) w) : zm_T zd_H d mX8_sureOf Q 79 [] [] w := by
  refine zm_bipush dX8_sureOf_79 (v := (-3 : Int32)) (by decide) ?_
  exact zm_ireturn dX8_sureOf_81 rfl k
theorem gX8_sureOf_82 {d : Nat} {Q : Value → zm_S → Prop} {w : zm_S} {a3 : Int32} {a4 : Int32} (kt : a4 ≤ (14 : Int32) → zm_T zd_H d mX8_sureOf Q 92 [(0, .ref 0), (3, .int a3), (4, .int a4)] [] w) (kf : ¬ a4 ≤ (14 : Int32) → zm_T zd_H d mX8_sureOf Q 89 [] [] w) : zm_T zd_H d mX8_sureOf Q 82 [(0, .ref 0), (3, .int a3), (4, .int a4)] [] w := by
  refine zm_iload (x := a4) 2 dX8_sureOf_82 rfl ?_
  refine zm_bipush dX8_sureOf_84 (v := (14 : Int32)) (by decide) ?_
  refine zm_icmp_le 92 dX8_sureOf_86 (by decide) (fun h => ?_) (fun h => ?_)
  · exact kt h
  · refine zm_sub [] rfl ?_
    exact kf h
theorem gX8_sureOf_89 {d : Nat} {Q : Value → zm_S → Prop} {w : zm_S} (k : Q (.int (-4 : Int32)) w) : zm_T zd_H d mX8_sureOf Q 89 [] [] w := by
  refine zm_bipush dX8_sureOf_89 (v := (-4 : Int32)) (by decide) ?_
  exact zm_ireturn dX8_sureOf_91 rfl k
theorem gX8_sureOf_92 {d : Nat} {Q : Value → zm_S → Prop} {w : zm_S} {a3 : Int32} {a4 : Int32} (k : zm_T zd_H d mX8_sureOf Q 95 [(0, .ref 0), (3, .int a3), (4, .int a4), (5, .int (0 : Int32))] [] w) : zm_T zd_H d mX8_sureOf Q 92 [(0, .ref 0), (3, .int a3), (4, .int a4)] [] w := by
  refine zm_iconst dX8_sureOf_92 (v := (0 : Int32)) (by decide) ?_
  refine zm_istore dX8_sureOf_93 (Nat.le_of_ble_eq_true rfl) (ls' := [(5, .int (0 : Int32)), (0, .ref 0), (3, .int a3), (4, .int a4)]) rfl ?_
  refine zm_sub [1, 2, 3, 0] rfl ?_
  exact k
theorem gX8_sureOf_95 {d : Nat} {Q : Value → zm_S → Prop} {w : zm_S} {a3 : Int32} {a4 : Int32} {a5 : Int32} {Q' : Value → zm_S → Prop} (hC : zm_C zd_H d mX8_n [.ref 0] w Q') (k : ∀ (r : Int32) (u : zm_S), Q' (.int r) u → zm_T zd_H (d + 1) mX8_sureOf Q 101 [(0, .ref 0), (3, .int a3), (4, .int a4), (5, .int a5)] [.int r, .int a5] u) : zm_T zd_H (d + 1) mX8_sureOf Q 95 [(0, .ref 0), (3, .int a3), (4, .int a4), (5, .int a5)] [] w := by
  refine zm_iload (x := a5) 3 dX8_sureOf_95 rfl ?_
  refine zm_aload_n (x := 0) 0 dX8_sureOf_97 rfl rfl ?_
  refine zm_callVi (as := []) (rest := [.int a5]) dX8_sureOf_98 rfl mtX8_n lkX8_111 zd_H0 (C := RX8) rfl rfl rfl (Nat.le_of_ble_eq_true rfl) hC rfl (fun r u hq => ?_)
  exact k r u hq
theorem gX8_sureOf_101 {d : Nat} {Q : Value → zm_S → Prop} {w : zm_S} {a3 : Int32} {a4 : Int32} {a5 : Int32} {s0 : Int32} {s1 : Int32} (kt : s0 ≤ s1 → zm_T zd_H d mX8_sureOf Q 167 [(0, .ref 0), (3, .int a3), (4, .int a4)] [] w) (kf : ¬ s0 ≤ s1 → zm_T zd_H d mX8_sureOf Q 104 [(0, .ref 0), (3, .int a3), (4, .int a4), (5, .int a5)] [] w) : zm_T zd_H d mX8_sureOf Q 101 [(0, .ref 0), (3, .int a3), (4, .int a4), (5, .int a5)] [.int s0, .int s1] w := by
  refine zm_icmp_ge 167 dX8_sureOf_101 (by decide) (fun h => ?_) (fun h => ?_)
  · refine zm_sub [0, 1, 2] rfl ?_
    exact kt h
  · exact kf h
theorem gX8_sureOf_104 {d : Nat} {Q : Value → zm_S → Prop} {w : zm_S} {a3 : Int32} {a4 : Int32} {a5 : Int32} (hi111 : vp_in a5 7) (k : zm_T zd_H d mX8_sureOf Q 115 [(0, .ref 0), (3, .int a3), (4, .int a4), (5, .int a5), (6, .int (0 : Int32))] [] (zm_pi w 19 (a5).toNatClampNeg (0 : Int32))) : zm_T zd_H d mX8_sureOf Q 104 [(0, .ref 0), (3, .int a3), (4, .int a4), (5, .int a5)] [] w := by
  refine zm_aload_n (x := 0) 0 dX8_sureOf_104 rfl rfl ?_
  refine zm_getf (v := .ref 19) (j := 25) dX8_sureOf_105 clX8 flX8_64 (Nat.le_of_ble_eq_true rfl) zd_H0 rfl rfl ?_
  refine zm_iload (x := a5) 3 dX8_sureOf_108 rfl ?_
  refine zm_iconst dX8_sureOf_110 (v := (0 : Int32)) (by decide) ?_
  refine zm_iast dX8_sureOf_111 zd_H19 hi111 ?_
  refine zm_iconst dX8_sureOf_112 (v := (0 : Int32)) (by decide) ?_
  refine zm_istore dX8_sureOf_113 (Nat.le_of_ble_eq_true rfl) (ls' := [(6, .int (0 : Int32)), (0, .ref 0), (3, .int a3), (4, .int a4), (5, .int a5)]) rfl ?_
  refine zm_sub [1, 2, 3, 4, 0] rfl ?_
  exact k
theorem gX8_sureOf_115 {d : Nat} {Q : Value → zm_S → Prop} {w : zm_S} {a3 : Int32} {a4 : Int32} {a5 : Int32} {a6 : Int32} (kt : a4 ≤ a6 → zm_T zd_H d mX8_sureOf Q 161 [(0, .ref 0), (3, .int a3), (4, .int a4), (5, .int a5)] [] w) (kf : ¬ a4 ≤ a6 → zm_T zd_H d mX8_sureOf Q 122 [(0, .ref 0), (3, .int a3), (4, .int a4), (5, .int a5), (6, .int a6)] [] w) : zm_T zd_H d mX8_sureOf Q 115 [(0, .ref 0), (3, .int a3), (4, .int a4), (5, .int a5), (6, .int a6)] [] w := by
  refine zm_iload (x := a6) 4 dX8_sureOf_115 rfl ?_
  refine zm_iload (x := a4) 2 dX8_sureOf_117 rfl ?_
  refine zm_icmp_ge 161 dX8_sureOf_119 (by decide) (fun h => ?_) (fun h => ?_)
  · refine zm_sub [0, 1, 2, 3] rfl ?_
    exact kt h
  · exact kf h
theorem gX8_sureOf_122 {d : Nat} {Q : Value → zm_S → Prop} {w : zm_S} {a3 : Int32} {a4 : Int32} {a5 : Int32} {a6 : Int32} {Q' : Value → zm_S → Prop} (hi129 : vp_in a5 7) (hi136 : vp_in a6 14) (hC : zm_C zd_H d mX8_isIn [.int (w.1 18 (a6).toNatClampNeg), .int a5] w Q') (k : ∀ (r : Int32) (u : zm_S), Q' (.int r) u → zm_T zd_H (d + 1) mX8_sureOf Q 142 [(0, .ref 0), (3, .int a3), (4, .int a4), (5, .int a5), (6, .int a6)] [.int r, .int (w.1 19 (a5).toNatClampNeg), .int a5, .ref 19] u) : zm_T zd_H (d + 1) mX8_sureOf Q 122 [(0, .ref 0), (3, .int a3), (4, .int a4), (5, .int a5), (6, .int a6)] [] w := by
  refine zm_aload_n (x := 0) 0 dX8_sureOf_122 rfl rfl ?_
  refine zm_getf (v := .ref 19) (j := 25) dX8_sureOf_123 clX8 flX8_64 (Nat.le_of_ble_eq_true rfl) zd_H0 rfl rfl ?_
  refine zm_iload (x := a5) 3 dX8_sureOf_126 rfl ?_
  refine zm_dup2 dX8_sureOf_128 rfl rfl ?_
  refine zm_iald dX8_sureOf_129 zd_H19 hi129 ?_
  refine zm_aload_n (x := 0) 0 dX8_sureOf_130 rfl rfl ?_
  refine zm_getf (v := .ref 18) (j := 24) dX8_sureOf_131 clX8 flX8_61 (Nat.le_of_ble_eq_true rfl) zd_H0 rfl rfl ?_
  refine zm_iload (x := a6) 4 dX8_sureOf_134 rfl ?_
  refine zm_iald dX8_sureOf_136 zd_H18 hi136 ?_
  refine zm_iload (x := a5) 3 dX8_sureOf_137 rfl ?_
  refine zm_callSz (as := [.int (w.1 18 (a6).toNatClampNeg), .int a5]) (rest := [.int (w.1 19 (a5).toNatClampNeg), .int a5, .ref 19]) dX8_sureOf_139 rfl mtX8_isIn lkX8_153 rfl (Nat.le_of_ble_eq_true rfl) hC rfl (fun r u hq => ?_)
  exact k r u hq
theorem gX8_sureOf_142 {d : Nat} {Q : Value → zm_S → Prop} {w : zm_S} {a3 : Int32} {a4 : Int32} {a5 : Int32} {a6 : Int32} {s0 : Int32} {s1 : Int32} {s2 : Int32} (kt : s0 = 0 → zm_T zd_H d mX8_sureOf Q 152 [(0, .ref 0), (3, .int a3), (4, .int a4), (5, .int a5), (6, .int a6)] [.int s1, .int s2, .ref 19] w) (kf : ¬ s0 = 0 → zm_T zd_H d mX8_sureOf Q 145 [(0, .ref 0), (3, .int a3), (4, .int a4), (5, .int a5), (6, .int a6)] [.int s1, .int s2, .ref 19] w) : zm_T zd_H d mX8_sureOf Q 142 [(0, .ref 0), (3, .int a3), (4, .int a4), (5, .int a5), (6, .int a6)] [.int s0, .int s1, .int s2, .ref 19] w := by
  refine zm_if_eq 152 dX8_sureOf_142 (by decide) (fun h => ?_) (fun h => ?_)
  · exact kt h
  · exact kf h
theorem gX8_sureOf_145 {d : Nat} {Q : Value → zm_S → Prop} {w : zm_S} {a3 : Int32} {a4 : Int32} {a5 : Int32} {a6 : Int32} {s0 : Int32} {s1 : Int32} (k : zm_T zd_H d mX8_sureOf Q 153 [(0, .ref 0), (3, .int a3), (4, .int a4), (5, .int a5), (6, .int a6)] [.int ((1 : Int32) <<< (a6 &&& 31)), .int s0, .int s1, .ref 19] w) : zm_T zd_H d mX8_sureOf Q 145 [(0, .ref 0), (3, .int a3), (4, .int a4), (5, .int a5), (6, .int a6)] [.int s0, .int s1, .ref 19] w := by
  refine zm_iconst dX8_sureOf_145 (v := (1 : Int32)) (by decide) ?_
  refine zm_iload (x := a6) 4 dX8_sureOf_146 rfl ?_
  refine zm_ishl dX8_sureOf_148 ?_
  refine zm_goto 153 dX8_sureOf_149 (by decide) ?_
  exact k
theorem gX8_sureOf_152 {d : Nat} {Q : Value → zm_S → Prop} {w : zm_S} {a3 : Int32} {a4 : Int32} {a5 : Int32} {a6 : Int32} {s0 : Int32} {s1 : Int32} (k : zm_T zd_H d mX8_sureOf Q 153 [(0, .ref 0), (3, .int a3), (4, .int a4), (5, .int a5), (6, .int a6)] [.int (0 : Int32), .int s0, .int s1, .ref 19] w) : zm_T zd_H d mX8_sureOf Q 152 [(0, .ref 0), (3, .int a3), (4, .int a4), (5, .int a5), (6, .int a6)] [.int s0, .int s1, .ref 19] w := by
  refine zm_iconst dX8_sureOf_152 (v := (0 : Int32)) (by decide) ?_
  exact k
theorem gX8_sureOf_153 {d : Nat} {Q : Value → zm_S → Prop} {w : zm_S} {a3 : Int32} {a4 : Int32} {a5 : Int32} {a6 : Int32} {s0 : Int32} {s1 : Int32} {s2 : Int32} (hi154 : vp_in s2 7) (k : zm_T zd_H d mX8_sureOf Q 115 [(0, .ref 0), (3, .int a3), (4, .int a4), (5, .int a5), (6, .int (a6 + (1 : Int32)))] [] (zm_pi w 19 (s2).toNatClampNeg (s1 ||| s0))) : zm_T zd_H d mX8_sureOf Q 153 [(0, .ref 0), (3, .int a3), (4, .int a4), (5, .int a5), (6, .int a6)] [.int s0, .int s1, .int s2, .ref 19] w := by
  refine zm_ior dX8_sureOf_153 ?_
  refine zm_iast dX8_sureOf_154 zd_H19 hi154 ?_
  refine zm_iinc 4 dX8_sureOf_155 (x := a6) (v := (a6 + (1 : Int32))) rfl rfl (Nat.le_of_ble_eq_true rfl) (ls' := [(6, .int (a6 + (1 : Int32))), (0, .ref 0), (3, .int a3), (4, .int a4), (5, .int a5)]) rfl ?_
  refine zm_goto 115 dX8_sureOf_158 (by decide) ?_
  refine zm_sub [1, 2, 3, 4, 0] rfl ?_
  exact k
theorem gX8_sureOf_161 {d : Nat} {Q : Value → zm_S → Prop} {w : zm_S} {a3 : Int32} {a4 : Int32} {a5 : Int32} (k : zm_T zd_H d mX8_sureOf Q 95 [(0, .ref 0), (3, .int a3), (4, .int a4), (5, .int (a5 + (1 : Int32)))] [] w) : zm_T zd_H d mX8_sureOf Q 161 [(0, .ref 0), (3, .int a3), (4, .int a4), (5, .int a5)] [] w := by
  refine zm_iinc 3 dX8_sureOf_161 (x := a5) (v := (a5 + (1 : Int32))) rfl rfl (Nat.le_of_ble_eq_true rfl) (ls' := [(5, .int (a5 + (1 : Int32))), (0, .ref 0), (3, .int a3), (4, .int a4)]) rfl ?_
  refine zm_goto 95 dX8_sureOf_164 (by decide) ?_
  refine zm_sub [1, 2, 3, 0] rfl ?_
  exact k
theorem gX8_sureOf_167 {d : Nat} {Q : Value → zm_S → Prop} {w : zm_S} {a3 : Int32} {a4 : Int32} (k : zm_T zd_H d mX8_sureOf Q 178 [(0, .ref 0), (3, .int a3), (4, .int a4), (5, .int (((1 : Int32) <<< (a4 &&& 31)) - (1 : Int32))), (6, .int (1 : Int32))] [] w) : zm_T zd_H d mX8_sureOf Q 167 [(0, .ref 0), (3, .int a3), (4, .int a4)] [] w := by
  refine zm_iconst dX8_sureOf_167 (v := (1 : Int32)) (by decide) ?_
  refine zm_iload (x := a4) 2 dX8_sureOf_168 rfl ?_
  refine zm_ishl dX8_sureOf_170 ?_
  refine zm_iconst dX8_sureOf_171 (v := (1 : Int32)) (by decide) ?_
  refine zm_isub dX8_sureOf_172 ?_
  refine zm_istore dX8_sureOf_173 (Nat.le_of_ble_eq_true rfl) (ls' := [(5, .int (((1 : Int32) <<< (a4 &&& 31)) - (1 : Int32))), (0, .ref 0), (3, .int a3), (4, .int a4)]) rfl ?_
  refine zm_iconst dX8_sureOf_175 (v := (1 : Int32)) (by decide) ?_
  refine zm_istore dX8_sureOf_176 (Nat.le_of_ble_eq_true rfl) (ls' := [(6, .int (1 : Int32)), (5, .int (((1 : Int32) <<< (a4 &&& 31)) - (1 : Int32))), (0, .ref 0), (3, .int a3), (4, .int a4)]) rfl ?_
  refine zm_sub [2, 3, 4, 1, 0] rfl ?_
  exact k
theorem gX8_sureOf_178 {d : Nat} {Q : Value → zm_S → Prop} {w : zm_S} {a3 : Int32} {a4 : Int32} {a5 : Int32} {a6 : Int32} (kt : a5 < a6 → zm_T zd_H d mX8_sureOf Q 284 [(0, .ref 0), (3, .int a3), (4, .int a4), (5, .int a5)] [] w) (kf : ¬ a5 < a6 → zm_T zd_H d mX8_sureOf Q 185 [(0, .ref 0), (3, .int a3), (4, .int a4), (5, .int a5), (6, .int a6)] [] w) : zm_T zd_H d mX8_sureOf Q 178 [(0, .ref 0), (3, .int a3), (4, .int a4), (5, .int a5), (6, .int a6)] [] w := by
  refine zm_iload (x := a6) 4 dX8_sureOf_178 rfl ?_
  refine zm_iload (x := a5) 3 dX8_sureOf_180 rfl ?_
  refine zm_icmp_gt 284 dX8_sureOf_182 (by decide) (fun h => ?_) (fun h => ?_)
  · refine zm_sub [0, 1, 2, 3] rfl ?_
    exact kt h
  · exact kf h
theorem gX8_sureOf_185 {d : Nat} {Q : Value → zm_S → Prop} {w : zm_S} {a3 : Int32} {a4 : Int32} {a5 : Int32} {a6 : Int32} (kt : ¬ (a6 &&& (a6 - (1 : Int32))) = 0 → zm_T zd_H d mX8_sureOf Q 205 [(0, .ref 0), (3, .int a3), (4, .int a4), (5, .int a5), (6, .int a6)] [.int a6, .ref 20] w) (kf : (a6 &&& (a6 - (1 : Int32))) = 0 → zm_T zd_H d mX8_sureOf Q 201 [(0, .ref 0), (3, .int a3), (4, .int a4), (5, .int a5), (6, .int a6)] [.int a6, .ref 20] w) : zm_T zd_H d mX8_sureOf Q 185 [(0, .ref 0), (3, .int a3), (4, .int a4), (5, .int a5), (6, .int a6)] [] w := by
  refine zm_aload_n (x := 0) 0 dX8_sureOf_185 rfl rfl ?_
  refine zm_getf (v := .ref 20) (j := 26) dX8_sureOf_186 clX8 flX8_67 (Nat.le_of_ble_eq_true rfl) zd_H0 rfl rfl ?_
  refine zm_iload (x := a6) 4 dX8_sureOf_189 rfl ?_
  refine zm_iload (x := a6) 4 dX8_sureOf_191 rfl ?_
  refine zm_iload (x := a6) 4 dX8_sureOf_193 rfl ?_
  refine zm_iconst dX8_sureOf_195 (v := (1 : Int32)) (by decide) ?_
  refine zm_isub dX8_sureOf_196 ?_
  refine zm_iand dX8_sureOf_197 ?_
  refine zm_if_ne 205 dX8_sureOf_198 (by decide) (fun h => ?_) (fun h => ?_)
  · exact kt h
  · exact kf h
theorem gX8_sureOf_201 {d : Nat} {Q : Value → zm_S → Prop} {w : zm_S} {a3 : Int32} {a4 : Int32} {a5 : Int32} {a6 : Int32} {s0 : Int32} (k : zm_T zd_H d mX8_sureOf Q 208 [(0, .ref 0), (3, .int a3), (4, .int a4), (5, .int a5), (6, .int a6)] [.int (0 : Int32), .int s0, .ref 20] w) : zm_T zd_H d mX8_sureOf Q 201 [(0, .ref 0), (3, .int a3), (4, .int a4), (5, .int a5), (6, .int a6)] [.int s0, .ref 20] w := by
  refine zm_iconst dX8_sureOf_201 (v := (0 : Int32)) (by decide) ?_
  refine zm_goto 208 dX8_sureOf_202 (by decide) ?_
  exact k
theorem gX8_sureOf_205 {d : Nat} {Q : Value → zm_S → Prop} {w : zm_S} {a3 : Int32} {a4 : Int32} {a5 : Int32} {a6 : Int32} {s0 : Int32} (k : zm_T zd_H d mX8_sureOf Q 208 [(0, .ref 0), (3, .int a3), (4, .int a4), (5, .int a5), (6, .int a6)] [.int (10000 : Int32), .int s0, .ref 20] w) : zm_T zd_H d mX8_sureOf Q 205 [(0, .ref 0), (3, .int a3), (4, .int a4), (5, .int a5), (6, .int a6)] [.int s0, .ref 20] w := by
  refine zm_sipush dX8_sureOf_205 (v := (10000 : Int32)) (by decide) ?_
  exact k
theorem gX8_sureOf_208 {d : Nat} {Q : Value → zm_S → Prop} {w : zm_S} {a3 : Int32} {a4 : Int32} {a5 : Int32} {a6 : Int32} {s0 : Int32} {s1 : Int32} (hi208 : vp_in s1 16384) (k : zm_T zd_H d mX8_sureOf Q 212 [(0, .ref 0), (3, .int a3), (4, .int a4), (5, .int a5), (6, .int a6), (7, .int (0 : Int32))] [] (zm_pi w 20 (s1).toNatClampNeg s0)) : zm_T zd_H d mX8_sureOf Q 208 [(0, .ref 0), (3, .int a3), (4, .int a4), (5, .int a5), (6, .int a6)] [.int s0, .int s1, .ref 20] w := by
  refine zm_iast dX8_sureOf_208 zd_H20 hi208 ?_
  refine zm_iconst dX8_sureOf_209 (v := (0 : Int32)) (by decide) ?_
  refine zm_istore dX8_sureOf_210 (Nat.le_of_ble_eq_true rfl) (ls' := [(7, .int (0 : Int32)), (0, .ref 0), (3, .int a3), (4, .int a4), (5, .int a5), (6, .int a6)]) rfl ?_
  refine zm_sub [1, 2, 3, 4, 5, 0] rfl ?_
  exact k
theorem gX8_sureOf_212 {d : Nat} {Q : Value → zm_S → Prop} {w : zm_S} {a3 : Int32} {a4 : Int32} {a5 : Int32} {a6 : Int32} {a7 : Int32} {Q' : Value → zm_S → Prop} (hC : zm_C zd_H d mX8_n [.ref 0] w Q') (k : ∀ (r : Int32) (u : zm_S), Q' (.int r) u → zm_T zd_H (d + 1) mX8_sureOf Q 218 [(0, .ref 0), (3, .int a3), (4, .int a4), (5, .int a5), (6, .int a6), (7, .int a7)] [.int r, .int a7] u) : zm_T zd_H (d + 1) mX8_sureOf Q 212 [(0, .ref 0), (3, .int a3), (4, .int a4), (5, .int a5), (6, .int a6), (7, .int a7)] [] w := by
  refine zm_iload (x := a7) 5 dX8_sureOf_212 rfl ?_
  refine zm_aload_n (x := 0) 0 dX8_sureOf_214 rfl rfl ?_
  refine zm_callVi (as := []) (rest := [.int a7]) dX8_sureOf_215 rfl mtX8_n lkX8_111 zd_H0 (C := RX8) rfl rfl rfl (Nat.le_of_ble_eq_true rfl) hC rfl (fun r u hq => ?_)
  exact k r u hq
theorem gX8_sureOf_218 {d : Nat} {Q : Value → zm_S → Prop} {w : zm_S} {a3 : Int32} {a4 : Int32} {a5 : Int32} {a6 : Int32} {a7 : Int32} {s0 : Int32} {s1 : Int32} (kt : s0 ≤ s1 → zm_T zd_H d mX8_sureOf Q 278 [(0, .ref 0), (3, .int a3), (4, .int a4), (5, .int a5), (6, .int a6)] [] w) (kf : ¬ s0 ≤ s1 → zm_T zd_H d mX8_sureOf Q 221 [(0, .ref 0), (3, .int a3), (4, .int a4), (5, .int a5), (6, .int a6), (7, .int a7)] [] w) : zm_T zd_H d mX8_sureOf Q 218 [(0, .ref 0), (3, .int a3), (4, .int a4), (5, .int a5), (6, .int a6), (7, .int a7)] [.int s0, .int s1] w := by
  refine zm_icmp_ge 278 dX8_sureOf_218 (by decide) (fun h => ?_) (fun h => ?_)
  · refine zm_sub [0, 1, 2, 3, 4] rfl ?_
    exact kt h
  · exact kf h
theorem gX8_sureOf_221 {d : Nat} {Q : Value → zm_S → Prop} {w : zm_S} {a3 : Int32} {a4 : Int32} {a5 : Int32} {a6 : Int32} {a7 : Int32} (hi227 : vp_in a6 16384) (kt : (w.1 20 (a6).toNatClampNeg) ≤ 0 → zm_T zd_H d mX8_sureOf Q 278 [(0, .ref 0), (3, .int a3), (4, .int a4), (5, .int a5), (6, .int a6)] [] w) (kf : ¬ (w.1 20 (a6).toNatClampNeg) ≤ 0 → zm_T zd_H d mX8_sureOf Q 231 [(0, .ref 0), (3, .int a3), (4, .int a4), (5, .int a5), (6, .int a6), (7, .int a7)] [] w) : zm_T zd_H d mX8_sureOf Q 221 [(0, .ref 0), (3, .int a3), (4, .int a4), (5, .int a5), (6, .int a6), (7, .int a7)] [] w := by
  refine zm_aload_n (x := 0) 0 dX8_sureOf_221 rfl rfl ?_
  refine zm_getf (v := .ref 20) (j := 26) dX8_sureOf_222 clX8 flX8_67 (Nat.le_of_ble_eq_true rfl) zd_H0 rfl rfl ?_
  refine zm_iload (x := a6) 4 dX8_sureOf_225 rfl ?_
  refine zm_iald dX8_sureOf_227 zd_H20 hi227 ?_
  refine zm_if_le 278 dX8_sureOf_228 (by decide) (fun h => ?_) (fun h => ?_)
  · refine zm_sub [0, 1, 2, 3, 4] rfl ?_
    exact kt h
  · exact kf h
theorem gX8_sureOf_231 {d : Nat} {Q : Value → zm_S → Prop} {w : zm_S} {a3 : Int32} {a4 : Int32} {a5 : Int32} {a6 : Int32} {a7 : Int32} {Q' : Value → zm_S → Prop} (hC : zm_C zd_H d mX8_byAsking [.ref 0, .int a7, .int a6] w Q') (k : ∀ (r : Int32) (u : zm_S), Q' (.int r) u → zm_T zd_H (d + 1) mX8_sureOf Q 239 [(0, .ref 0), (3, .int a3), (4, .int a4), (5, .int a5), (6, .int a6), (7, .int a7)] [.int r] u) : zm_T zd_H (d + 1) mX8_sureOf Q 231 [(0, .ref 0), (3, .int a3), (4, .int a4), (5, .int a5), (6, .int a6), (7, .int a7)] [] w := by
  refine zm_aload_n (x := 0) 0 dX8_sureOf_231 rfl rfl ?_
  refine zm_iload (x := a7) 5 dX8_sureOf_232 rfl ?_
  refine zm_iload (x := a6) 4 dX8_sureOf_234 rfl ?_
  refine zm_callVi (as := [.int a7, .int a6]) (rest := []) dX8_sureOf_236 rfl mtX8_byAsking lkX8_276 zd_H0 (C := RX8) rfl rfl rfl (Nat.le_of_ble_eq_true rfl) hC rfl (fun r u hq => ?_)
  exact k r u hq
theorem gX8_sureOf_239 {d : Nat} {Q : Value → zm_S → Prop} {w : zm_S} {a3 : Int32} {a4 : Int32} {a5 : Int32} {a6 : Int32} {a7 : Int32} {s0 : Int32} (hi255 : vp_in a6 16384) (kt : (w.1 20 (a6).toNatClampNeg) ≤ s0 → zm_T zd_H d mX8_sureOf Q 264 [(0, .ref 0), (3, .int a3), (4, .int a4), (5, .int a5), (6, .int a6), (7, .int a7)] [.int a6, .ref 20] w) (kf : ¬ (w.1 20 (a6).toNatClampNeg) ≤ s0 → zm_T zd_H d mX8_sureOf Q 259 [(0, .ref 0), (3, .int a3), (4, .int a4), (5, .int a5), (6, .int a6), (7, .int a7), (8, .int s0)] [.int a6, .ref 20] w) : zm_T zd_H d mX8_sureOf Q 239 [(0, .ref 0), (3, .int a3), (4, .int a4), (5, .int a5), (6, .int a6), (7, .int a7)] [.int s0] w := by
  refine zm_istore dX8_sureOf_239 (Nat.le_of_ble_eq_true rfl) (ls' := [(8, .int s0), (0, .ref 0), (3, .int a3), (4, .int a4), (5, .int a5), (6, .int a6), (7, .int a7)]) rfl ?_
  refine zm_aload_n (x := 0) 1 dX8_sureOf_241 rfl rfl ?_
  refine zm_getf (v := .ref 20) (j := 26) dX8_sureOf_242 clX8 flX8_67 (Nat.le_of_ble_eq_true rfl) zd_H0 rfl rfl ?_
  refine zm_iload (x := a6) 5 dX8_sureOf_245 rfl ?_
  refine zm_iload (x := s0) 0 dX8_sureOf_247 rfl ?_
  refine zm_aload_n (x := 0) 1 dX8_sureOf_249 rfl rfl ?_
  refine zm_getf (v := .ref 20) (j := 26) dX8_sureOf_250 clX8 flX8_67 (Nat.le_of_ble_eq_true rfl) zd_H0 rfl rfl ?_
  refine zm_iload (x := a6) 5 dX8_sureOf_253 rfl ?_
  refine zm_iald dX8_sureOf_255 zd_H20 hi255 ?_
  refine zm_icmp_ge 264 dX8_sureOf_256 (by decide) (fun h => ?_) (fun h => ?_)
  · refine zm_sub [1, 2, 3, 4, 5, 6] rfl ?_
    exact kt h
  · refine zm_sub [1, 2, 3, 4, 5, 6, 0] rfl ?_
    exact kf h
theorem gX8_sureOf_259 {d : Nat} {Q : Value → zm_S → Prop} {w : zm_S} {a3 : Int32} {a4 : Int32} {a5 : Int32} {a6 : Int32} {a7 : Int32} {a8 : Int32} {s0 : Int32} (k : zm_T zd_H d mX8_sureOf Q 271 [(0, .ref 0), (3, .int a3), (4, .int a4), (5, .int a5), (6, .int a6), (7, .int a7)] [.int a8, .int s0, .ref 20] w) : zm_T zd_H d mX8_sureOf Q 259 [(0, .ref 0), (3, .int a3), (4, .int a4), (5, .int a5), (6, .int a6), (7, .int a7), (8, .int a8)] [.int s0, .ref 20] w := by
  refine zm_iload (x := a8) 6 dX8_sureOf_259 rfl ?_
  refine zm_goto 271 dX8_sureOf_261 (by decide) ?_
  refine zm_sub [0, 1, 2, 3, 4, 5] rfl ?_
  exact k
theorem gX8_sureOf_264 {d : Nat} {Q : Value → zm_S → Prop} {w : zm_S} {a3 : Int32} {a4 : Int32} {a5 : Int32} {a6 : Int32} {a7 : Int32} {s0 : Int32} (hi270 : vp_in a6 16384) (k : zm_T zd_H d mX8_sureOf Q 271 [(0, .ref 0), (3, .int a3), (4, .int a4), (5, .int a5), (6, .int a6), (7, .int a7)] [.int (w.1 20 (a6).toNatClampNeg), .int s0, .ref 20] w) : zm_T zd_H d mX8_sureOf Q 264 [(0, .ref 0), (3, .int a3), (4, .int a4), (5, .int a5), (6, .int a6), (7, .int a7)] [.int s0, .ref 20] w := by
  refine zm_aload_n (x := 0) 0 dX8_sureOf_264 rfl rfl ?_
  refine zm_getf (v := .ref 20) (j := 26) dX8_sureOf_265 clX8 flX8_67 (Nat.le_of_ble_eq_true rfl) zd_H0 rfl rfl ?_
  refine zm_iload (x := a6) 4 dX8_sureOf_268 rfl ?_
  refine zm_iald dX8_sureOf_270 zd_H20 hi270 ?_
  exact k
theorem gX8_sureOf_271 {d : Nat} {Q : Value → zm_S → Prop} {w : zm_S} {a3 : Int32} {a4 : Int32} {a5 : Int32} {a6 : Int32} {a7 : Int32} {s0 : Int32} {s1 : Int32} (hi271 : vp_in s1 16384) (k : zm_T zd_H d mX8_sureOf Q 212 [(0, .ref 0), (3, .int a3), (4, .int a4), (5, .int a5), (6, .int a6), (7, .int (a7 + (1 : Int32)))] [] (zm_pi w 20 (s1).toNatClampNeg s0)) : zm_T zd_H d mX8_sureOf Q 271 [(0, .ref 0), (3, .int a3), (4, .int a4), (5, .int a5), (6, .int a6), (7, .int a7)] [.int s0, .int s1, .ref 20] w := by
  refine zm_iast dX8_sureOf_271 zd_H20 hi271 ?_
  refine zm_iinc 5 dX8_sureOf_272 (x := a7) (v := (a7 + (1 : Int32))) rfl rfl (Nat.le_of_ble_eq_true rfl) (ls' := [(7, .int (a7 + (1 : Int32))), (0, .ref 0), (3, .int a3), (4, .int a4), (5, .int a5), (6, .int a6)]) rfl ?_
  refine zm_goto 212 dX8_sureOf_275 (by decide) ?_
  refine zm_sub [1, 2, 3, 4, 5, 0] rfl ?_
  exact k
theorem gX8_sureOf_278 {d : Nat} {Q : Value → zm_S → Prop} {w : zm_S} {a3 : Int32} {a4 : Int32} {a5 : Int32} {a6 : Int32} (k : zm_T zd_H d mX8_sureOf Q 178 [(0, .ref 0), (3, .int a3), (4, .int a4), (5, .int a5), (6, .int (a6 + (1 : Int32)))] [] w) : zm_T zd_H d mX8_sureOf Q 278 [(0, .ref 0), (3, .int a3), (4, .int a4), (5, .int a5), (6, .int a6)] [] w := by
  refine zm_iinc 4 dX8_sureOf_278 (x := a6) (v := (a6 + (1 : Int32))) rfl rfl (Nat.le_of_ble_eq_true rfl) (ls' := [(6, .int (a6 + (1 : Int32))), (0, .ref 0), (3, .int a3), (4, .int a4), (5, .int a5)]) rfl ?_
  refine zm_goto 178 dX8_sureOf_281 (by decide) ?_
  refine zm_sub [1, 2, 3, 4, 0] rfl ?_
  exact k
theorem gX8_sureOf_284 {d : Nat} {Q : Value → zm_S → Prop} {w : zm_S} {a3 : Int32} {a4 : Int32} {a5 : Int32} (kt : ¬ a3 = 0 → zm_T zd_H d mX8_sureOf Q 296 [(0, .ref 0), (4, .int a4), (5, .int a5)] [] w) (kf : a3 = 0 → zm_T zd_H d mX8_sureOf Q 288 [(0, .ref 0), (5, .int a5)] [] w) : zm_T zd_H d mX8_sureOf Q 284 [(0, .ref 0), (3, .int a3), (4, .int a4), (5, .int a5)] [] w := by
  refine zm_iload_n (x := a3) 1 dX8_sureOf_284 rfl rfl ?_
  refine zm_if_ne 296 dX8_sureOf_285 (by decide) (fun h => ?_) (fun h => ?_)
  · refine zm_sub [0, 2, 3] rfl ?_
    exact kt h
  · refine zm_sub [0, 3] rfl ?_
    exact kf h
theorem gX8_sureOf_288 {d : Nat} {Q : Value → zm_S → Prop} {w : zm_S} {a5 : Int32} (hi294 : vp_in a5 16384) (k : Q (.int (w.1 20 (a5).toNatClampNeg)) w) : zm_T zd_H d mX8_sureOf Q 288 [(0, .ref 0), (5, .int a5)] [] w := by
  refine zm_aload_n (x := 0) 0 dX8_sureOf_288 rfl rfl ?_
  refine zm_getf (v := .ref 20) (j := 26) dX8_sureOf_289 clX8 flX8_67 (Nat.le_of_ble_eq_true rfl) zd_H0 rfl rfl ?_
  refine zm_iload (x := a5) 1 dX8_sureOf_292 rfl ?_
  refine zm_iald dX8_sureOf_294 zd_H20 hi294 ?_
  exact zm_ireturn dX8_sureOf_295 rfl k
theorem gX8_sureOf_296 {d : Nat} {Q : Value → zm_S → Prop} {w : zm_S} {a4 : Int32} {a5 : Int32} (k : zm_T zd_H d mX8_sureOf Q 299 [(0, .ref 0), (4, .int a4), (5, .int a5), (6, .int (0 : Int32))] [] w) : zm_T zd_H d mX8_sureOf Q 296 [(0, .ref 0), (4, .int a4), (5, .int a5)] [] w := by
  refine zm_iconst dX8_sureOf_296 (v := (0 : Int32)) (by decide) ?_
  refine zm_istore dX8_sureOf_297 (Nat.le_of_ble_eq_true rfl) (ls' := [(6, .int (0 : Int32)), (0, .ref 0), (4, .int a4), (5, .int a5)]) rfl ?_
  refine zm_sub [1, 2, 3, 0] rfl ?_
  exact k
theorem gX8_sureOf_299 {d : Nat} {Q : Value → zm_S → Prop} {w : zm_S} {a4 : Int32} {a5 : Int32} {a6 : Int32} {Q' : Value → zm_S → Prop} (hC : zm_C zd_H d mX8_n [.ref 0] w Q') (k : ∀ (r : Int32) (u : zm_S), Q' (.int r) u → zm_T zd_H (d + 1) mX8_sureOf Q 305 [(0, .ref 0), (4, .int a4), (5, .int a5), (6, .int a6)] [.int r, .int a6] u) : zm_T zd_H (d + 1) mX8_sureOf Q 299 [(0, .ref 0), (4, .int a4), (5, .int a5), (6, .int a6)] [] w := by
  refine zm_iload (x := a6) 3 dX8_sureOf_299 rfl ?_
  refine zm_aload_n (x := 0) 0 dX8_sureOf_301 rfl rfl ?_
  refine zm_callVi (as := []) (rest := [.int a6]) dX8_sureOf_302 rfl mtX8_n lkX8_111 zd_H0 (C := RX8) rfl rfl rfl (Nat.le_of_ble_eq_true rfl) hC rfl (fun r u hq => ?_)
  exact k r u hq
theorem gX8_sureOf_305 {d : Nat} {Q : Value → zm_S → Prop} {w : zm_S} {a4 : Int32} {a5 : Int32} {a6 : Int32} {s0 : Int32} {s1 : Int32} (kt : s0 ≤ s1 → zm_T zd_H d mX8_sureOf Q 341 [] [] w) (kf : ¬ s0 ≤ s1 → zm_T zd_H d mX8_sureOf Q 308 [(0, .ref 0), (4, .int a4), (5, .int a5), (6, .int a6)] [] w) : zm_T zd_H d mX8_sureOf Q 305 [(0, .ref 0), (4, .int a4), (5, .int a5), (6, .int a6)] [.int s0, .int s1] w := by
  refine zm_icmp_ge 341 dX8_sureOf_305 (by decide) (fun h => ?_) (fun h => ?_)
  · refine zm_sub [] rfl ?_
    exact kt h
  · exact kf h
theorem gX8_sureOf_308 {d : Nat} {Q : Value → zm_S → Prop} {w : zm_S} {a4 : Int32} {a5 : Int32} {a6 : Int32} (kt : a4 ≤ (1 : Int32) → zm_T zd_H d mX8_sureOf Q 341 [] [] w) (kf : ¬ a4 ≤ (1 : Int32) → zm_T zd_H d mX8_sureOf Q 314 [(0, .ref 0), (4, .int a4), (5, .int a5), (6, .int a6)] [] w) : zm_T zd_H d mX8_sureOf Q 308 [(0, .ref 0), (4, .int a4), (5, .int a5), (6, .int a6)] [] w := by
  refine zm_iload (x := a4) 1 dX8_sureOf_308 rfl ?_
  refine zm_iconst dX8_sureOf_310 (v := (1 : Int32)) (by decide) ?_
  refine zm_icmp_le 341 dX8_sureOf_311 (by decide) (fun h => ?_) (fun h => ?_)
  · refine zm_sub [] rfl ?_
    exact kt h
  · exact kf h
theorem gX8_sureOf_314 {d : Nat} {Q : Value → zm_S → Prop} {w : zm_S} {a4 : Int32} {a5 : Int32} {a6 : Int32} {Q' : Value → zm_S → Prop} (hC : zm_C zd_H d mX8_byAsking [.ref 0, .int a6, .int a5] w Q') (k : ∀ (r : Int32) (u : zm_S), Q' (.int r) u → zm_T zd_H (d + 1) mX8_sureOf Q 322 [(0, .ref 0), (4, .int a4), (5, .int a5), (6, .int a6)] [.int r] u) : zm_T zd_H (d + 1) mX8_sureOf Q 314 [(0, .ref 0), (4, .int a4), (5, .int a5), (6, .int a6)] [] w := by
  refine zm_aload_n (x := 0) 0 dX8_sureOf_314 rfl rfl ?_
  refine zm_iload (x := a6) 3 dX8_sureOf_315 rfl ?_
  refine zm_iload (x := a5) 2 dX8_sureOf_317 rfl ?_
  refine zm_callVi (as := [.int a6, .int a5]) (rest := []) dX8_sureOf_319 rfl mtX8_byAsking lkX8_276 zd_H0 (C := RX8) rfl rfl rfl (Nat.le_of_ble_eq_true rfl) hC rfl (fun r u hq => ?_)
  exact k r u hq
theorem gX8_sureOf_322 {d : Nat} {Q : Value → zm_S → Prop} {w : zm_S} {a4 : Int32} {a5 : Int32} {a6 : Int32} {s0 : Int32} (hi328 : vp_in a5 16384) (kt : ¬ s0 = (w.1 20 (a5).toNatClampNeg) → zm_T zd_H d mX8_sureOf Q 335 [(0, .ref 0), (4, .int a4), (5, .int a5), (6, .int a6)] [] w) (kf : s0 = (w.1 20 (a5).toNatClampNeg) → zm_T zd_H d mX8_sureOf Q 332 [(6, .int a6)] [] w) : zm_T zd_H d mX8_sureOf Q 322 [(0, .ref 0), (4, .int a4), (5, .int a5), (6, .int a6)] [.int s0] w := by
  refine zm_aload_n (x := 0) 0 dX8_sureOf_322 rfl rfl ?_
  refine zm_getf (v := .ref 20) (j := 26) dX8_sureOf_323 clX8 flX8_67 (Nat.le_of_ble_eq_true rfl) zd_H0 rfl rfl ?_
  refine zm_iload (x := a5) 2 dX8_sureOf_326 rfl ?_
  refine zm_iald dX8_sureOf_328 zd_H20 hi328 ?_
  refine zm_icmp_ne 335 dX8_sureOf_329 (by decide) (fun h => ?_) (fun h => ?_)
  · exact kt h
  · refine zm_sub [3] rfl ?_
    exact kf h
theorem gX8_sureOf_332 {d : Nat} {Q : Value → zm_S → Prop} {w : zm_S} {a6 : Int32} (k : Q (.int a6) w) : zm_T zd_H d mX8_sureOf Q 332 [(6, .int a6)] [] w := by
  refine zm_iload (x := a6) 0 dX8_sureOf_332 rfl ?_
  exact zm_ireturn dX8_sureOf_334 rfl k
theorem gX8_sureOf_335 {d : Nat} {Q : Value → zm_S → Prop} {w : zm_S} {a4 : Int32} {a5 : Int32} {a6 : Int32} (k : zm_T zd_H d mX8_sureOf Q 299 [(0, .ref 0), (4, .int a4), (5, .int a5), (6, .int (a6 + (1 : Int32)))] [] w) : zm_T zd_H d mX8_sureOf Q 335 [(0, .ref 0), (4, .int a4), (5, .int a5), (6, .int a6)] [] w := by
  refine zm_iinc 3 dX8_sureOf_335 (x := a6) (v := (a6 + (1 : Int32))) rfl rfl (Nat.le_of_ble_eq_true rfl) (ls' := [(6, .int (a6 + (1 : Int32))), (0, .ref 0), (4, .int a4), (5, .int a5)]) rfl ?_
  refine zm_goto 299 dX8_sureOf_338 (by decide) ?_
  refine zm_sub [1, 2, 3, 0] rfl ?_
  exact k
theorem gX8_sureOf_341 {d : Nat} {Q : Value → zm_S → Prop} {w : zm_S} (k : Q (.int (-1 : Int32)) w) : zm_T zd_H d mX8_sureOf Q 341 [] [] w := by
  refine zm_iconst dX8_sureOf_341 (v := (-1 : Int32)) (by decide) ?_
  exact zm_ireturn dX8_sureOf_342 rfl k
theorem gX8_sure_0 {d : Nat} {Q : Value → zm_S → Prop} {w : zm_S} {a1 : Int32} {a2 : Int32} {a3 : Int32} {Q' : Value → zm_S → Prop} (hC : zm_C zd_H d mX8_in [.long ((a1).toInt64), .long (0 : Int64), .long (127 : Int64)] w Q') (k : ∀ (r : Int32) (u : zm_S), Q' (.int r) u → zm_T zd_H (d + 1) mX8_sure Q 9 [(0, .ref 0), (1, .int a1), (2, .int a2), (3, .int a3)] [.int r] u) : zm_T zd_H (d + 1) mX8_sure Q 0 [(0, .ref 0), (1, .int a1), (2, .int a2), (3, .int a3)] [] w := by
  refine zm_iload_n (x := a1) 1 dX8_sure_0 rfl rfl ?_
  refine zm_i2l dX8_sure_1 ?_
  refine zm_lconst dX8_sure_2 (v := (0 : Int64)) (by decide) ?_
  refine zm_ldc2_w dX8_sure_3 kcX8_195 ?_
  refine zm_callSz (as := [.long ((a1).toInt64), .long (0 : Int64), .long (127 : Int64)]) (rest := []) dX8_sure_6 rfl mtX8_in lkX8_78 rfl (Nat.le_of_ble_eq_true rfl) hC rfl (fun r u hq => ?_)
  exact k r u hq
theorem gX8_sure_9 {d : Nat} {Q : Value → zm_S → Prop} {w : zm_S} {a1 : Int32} {a2 : Int32} {a3 : Int32} {s0 : Int32} (kt : s0 = 0 → zm_T zd_H d mX8_sure Q 41 [] [] w) (kf : ¬ s0 = 0 → zm_T zd_H d mX8_sure Q 12 [(0, .ref 0), (1, .int a1), (2, .int a2), (3, .int a3)] [] w) : zm_T zd_H d mX8_sure Q 9 [(0, .ref 0), (1, .int a1), (2, .int a2), (3, .int a3)] [.int s0] w := by
  refine zm_if_eq 41 dX8_sure_9 (by decide) (fun h => ?_) (fun h => ?_)
  · refine zm_sub [] rfl ?_
    exact kt h
  · exact kf h
theorem gX8_sure_12 {d : Nat} {Q : Value → zm_S → Prop} {w : zm_S} {a1 : Int32} {a2 : Int32} {a3 : Int32} {Q' : Value → zm_S → Prop} (hC : zm_C zd_H d mX8_in [.long ((a2).toInt64), .long (0 : Int64), .long (127 : Int64)] w Q') (k : ∀ (r : Int32) (u : zm_S), Q' (.int r) u → zm_T zd_H (d + 1) mX8_sure Q 21 [(0, .ref 0), (1, .int a1), (2, .int a2), (3, .int a3)] [.int r] u) : zm_T zd_H (d + 1) mX8_sure Q 12 [(0, .ref 0), (1, .int a1), (2, .int a2), (3, .int a3)] [] w := by
  refine zm_iload_n (x := a2) 2 dX8_sure_12 rfl rfl ?_
  refine zm_i2l dX8_sure_13 ?_
  refine zm_lconst dX8_sure_14 (v := (0 : Int64)) (by decide) ?_
  refine zm_ldc2_w dX8_sure_15 kcX8_195 ?_
  refine zm_callSz (as := [.long ((a2).toInt64), .long (0 : Int64), .long (127 : Int64)]) (rest := []) dX8_sure_18 rfl mtX8_in lkX8_78 rfl (Nat.le_of_ble_eq_true rfl) hC rfl (fun r u hq => ?_)
  exact k r u hq
theorem gX8_sure_21 {d : Nat} {Q : Value → zm_S → Prop} {w : zm_S} {a1 : Int32} {a2 : Int32} {a3 : Int32} {s0 : Int32} (kt : s0 = 0 → zm_T zd_H d mX8_sure Q 41 [] [] w) (kf : ¬ s0 = 0 → zm_T zd_H d mX8_sure Q 24 [(0, .ref 0), (1, .int a1), (2, .int a2), (3, .int a3)] [] w) : zm_T zd_H d mX8_sure Q 21 [(0, .ref 0), (1, .int a1), (2, .int a2), (3, .int a3)] [.int s0] w := by
  refine zm_if_eq 41 dX8_sure_21 (by decide) (fun h => ?_) (fun h => ?_)
  · refine zm_sub [] rfl ?_
    exact kt h
  · exact kf h
theorem gX8_sure_24 {d : Nat} {Q : Value → zm_S → Prop} {w : zm_S} {a1 : Int32} {a2 : Int32} {a3 : Int32} {Q' : Value → zm_S → Prop} (hC : zm_C zd_H d mX8_isTwo [.int a3] w Q') (k : ∀ (r : Int32) (u : zm_S), Q' (.int r) u → zm_T zd_H (d + 1) mX8_sure Q 28 [(0, .ref 0), (1, .int a1), (2, .int a2), (3, .int a3)] [.int r] u) : zm_T zd_H (d + 1) mX8_sure Q 24 [(0, .ref 0), (1, .int a1), (2, .int a2), (3, .int a3)] [] w := by
  refine zm_iload_n (x := a3) 3 dX8_sure_24 rfl rfl ?_
  refine zm_callSz (as := [.int a3]) (rest := []) dX8_sure_25 rfl mtX8_isTwo lkX8_179 rfl (Nat.le_of_ble_eq_true rfl) hC rfl (fun r u hq => ?_)
  exact k r u hq
theorem gX8_sure_28 {d : Nat} {Q : Value → zm_S → Prop} {w : zm_S} {a1 : Int32} {a2 : Int32} {a3 : Int32} {s0 : Int32} (kt : s0 = 0 → zm_T zd_H d mX8_sure Q 41 [] [] w) (kf : ¬ s0 = 0 → zm_T zd_H d mX8_sure Q 31 [(0, .ref 0), (1, .int a1), (2, .int a2), (3, .int a3)] [] w) : zm_T zd_H d mX8_sure Q 28 [(0, .ref 0), (1, .int a1), (2, .int a2), (3, .int a3)] [.int s0] w := by
  refine zm_if_eq 41 dX8_sure_28 (by decide) (fun h => ?_) (fun h => ?_)
  · refine zm_sub [] rfl ?_
    exact kt h
  · exact kf h
theorem gX8_sure_31 {d : Nat} {Q : Value → zm_S → Prop} {w : zm_S} {a1 : Int32} {a2 : Int32} {a3 : Int32} {Q' : Value → zm_S → Prop} (hC : zm_C zd_H d mX8_sureOf [.ref 0, .int a1, .int a2, .int a3] w Q') (k : ∀ (r : Int32) (u : zm_S), Q' (.int r) u → zm_T zd_H (d + 1) mX8_sure Q 38 [] [.int r] u) : zm_T zd_H (d + 1) mX8_sure Q 31 [(0, .ref 0), (1, .int a1), (2, .int a2), (3, .int a3)] [] w := by
  refine zm_aload_n (x := 0) 0 dX8_sure_31 rfl rfl ?_
  refine zm_iload_n (x := a1) 1 dX8_sure_32 rfl rfl ?_
  refine zm_iload_n (x := a2) 2 dX8_sure_33 rfl rfl ?_
  refine zm_iload_n (x := a3) 3 dX8_sure_34 rfl rfl ?_
  refine zm_callVi (as := [.int a1, .int a2, .int a3]) (rest := []) dX8_sure_35 rfl mtX8_sureOf lkX8_279 zd_H0 (C := RX8) rfl rfl rfl (Nat.le_of_ble_eq_true rfl) hC rfl (fun r u hq => ?_)
  refine zm_sub [] rfl ?_
  exact k r u hq
theorem gX8_sure_38 {d : Nat} {Q : Value → zm_S → Prop} {w : zm_S} {s0 : Int32} (k : Q (.int s0) w) : zm_T zd_H d mX8_sure Q 38 [] [.int s0] w := by
  refine zm_goto 43 dX8_sure_38 (by decide) ?_
  exact zm_ireturn dX8_sure_43 rfl k
theorem gX8_sure_41 {d : Nat} {Q : Value → zm_S → Prop} {w : zm_S} (k : Q (.int (-2 : Int32)) w) : zm_T zd_H d mX8_sure Q 41 [] [] w := by
  refine zm_bipush dX8_sure_41 (v := (-2 : Int32)) (by decide) ?_
  exact zm_ireturn dX8_sure_43 rfl k
theorem gX8_chanceAbove_0 {d : Nat} {Q : Value → zm_S → Prop} {w : zm_S} {a1 : Int32} {a2 : Int32} {a3 : Int32} {a4 : Int32} (k : zm_T zd_H d mX8_chanceAbove Q 6 [(0, .ref 0), (1, .int a1), (2, .int a2), (3, .int a3), (4, .int a4), (5, .long (1 : Int64)), (7, .int (0 : Int32))] [] w) : zm_T zd_H d mX8_chanceAbove Q 0 [(0, .ref 0), (1, .int a1), (2, .int a2), (3, .int a3), (4, .int a4)] [] w := by
  refine zm_lconst dX8_chanceAbove_0 (v := (1 : Int64)) (by decide) ?_
  refine zm_lstore dX8_chanceAbove_1 (Nat.le_of_ble_eq_true rfl) (ls' := [(5, .long (1 : Int64)), (0, .ref 0), (1, .int a1), (2, .int a2), (3, .int a3), (4, .int a4)]) rfl ?_
  refine zm_iconst dX8_chanceAbove_3 (v := (0 : Int32)) (by decide) ?_
  refine zm_istore dX8_chanceAbove_4 (Nat.le_of_ble_eq_true rfl) (ls' := [(7, .int (0 : Int32)), (5, .long (1 : Int64)), (0, .ref 0), (1, .int a1), (2, .int a2), (3, .int a3), (4, .int a4)]) rfl ?_
  refine zm_sub [2, 3, 4, 5, 6, 1, 0] rfl ?_
  exact k
theorem gX8_chanceAbove_6 {d : Nat} {Q : Value → zm_S → Prop} {w : zm_S} {a1 : Int32} {a2 : Int32} {a3 : Int32} {a4 : Int32} {a5 : Int64} {a7 : Int32} {Q' : Value → zm_S → Prop} (hC : zm_C zd_H d mX8_n [.ref 0] w Q') (k : ∀ (r : Int32) (u : zm_S), Q' (.int r) u → zm_T zd_H (d + 1) mX8_chanceAbove Q 12 [(0, .ref 0), (1, .int a1), (2, .int a2), (3, .int a3), (4, .int a4), (5, .long a5), (7, .int a7)] [.int r, .int a7] u) : zm_T zd_H (d + 1) mX8_chanceAbove Q 6 [(0, .ref 0), (1, .int a1), (2, .int a2), (3, .int a3), (4, .int a4), (5, .long a5), (7, .int a7)] [] w := by
  refine zm_iload (x := a7) 6 dX8_chanceAbove_6 rfl ?_
  refine zm_aload_n (x := 0) 0 dX8_chanceAbove_8 rfl rfl ?_
  refine zm_callVi (as := []) (rest := [.int a7]) dX8_chanceAbove_9 rfl mtX8_n lkX8_111 zd_H0 (C := RX8) rfl rfl rfl (Nat.le_of_ble_eq_true rfl) hC rfl (fun r u hq => ?_)
  exact k r u hq
