theorem gX7_answer_0 {d : Nat} {Q : Value → zm_S → Prop} {w : zm_S} {a1 : Int32} {a2 : Int32} {a3 : Int32} {a4 : Int32} {Q' : Value → zm_S → Prop} (hC : zm_C zc_H d mX7_within [.int a1, .int (12 : Int32)] w Q') (k : ∀ (r : Int32) (u : zm_S), Q' (.int r) u → zm_T zc_H (d + 1) mX7_answer Q 6 [(0, .ref 0), (1, .int a1), (2, .int a2), (3, .int a3), (4, .int a4)] [.int r] u) : zm_T zc_H (d + 1) mX7_answer Q 0 [(0, .ref 0), (1, .int a1), (2, .int a2), (3, .int a3), (4, .int a4)] [] w := by
  refine zm_iload_n (x := a1) 1 dX7_answer_0 rfl rfl ?_
  refine zm_bipush dX7_answer_1 (v := (12 : Int32)) (by decide) ?_
  refine zm_callSz (as := [.int a1, .int (12 : Int32)]) (rest := []) dX7_answer_3 rfl mtX7_within lkX7_62 rfl (Nat.le_of_ble_eq_true rfl) hC rfl (fun r u hq => ?_)
  exact k r u hq
theorem gX7_answer_6 {d : Nat} {Q : Value → zm_S → Prop} {w : zm_S} {a1 : Int32} {a2 : Int32} {a3 : Int32} {a4 : Int32} {s0 : Int32} (kt : s0 = 0 → zm_T zc_H d mX7_answer Q 38 [] [] w) (kf : ¬ s0 = 0 → zm_T zc_H d mX7_answer Q 9 [(0, .ref 0), (1, .int a1), (2, .int a2), (3, .int a3), (4, .int a4)] [] w) : zm_T zc_H d mX7_answer Q 6 [(0, .ref 0), (1, .int a1), (2, .int a2), (3, .int a3), (4, .int a4)] [.int s0] w := by
  refine zm_if_eq 38 dX7_answer_6 (by decide) (fun h => ?_) (fun h => ?_)
  · refine zm_sub [] rfl ?_
    exact kt h
  · exact kf h
theorem gX7_answer_9 {d : Nat} {Q : Value → zm_S → Prop} {w : zm_S} {a1 : Int32} {a2 : Int32} {a3 : Int32} {a4 : Int32} {Q' : Value → zm_S → Prop} (hC : zm_C zc_H d mX7_within [.int a2, .int (7 : Int32)] w Q') (k : ∀ (r : Int32) (u : zm_S), Q' (.int r) u → zm_T zc_H (d + 1) mX7_answer Q 15 [(0, .ref 0), (1, .int a1), (2, .int a2), (3, .int a3), (4, .int a4)] [.int r] u) : zm_T zc_H (d + 1) mX7_answer Q 9 [(0, .ref 0), (1, .int a1), (2, .int a2), (3, .int a3), (4, .int a4)] [] w := by
  refine zm_iload_n (x := a2) 2 dX7_answer_9 rfl rfl ?_
  refine zm_bipush dX7_answer_10 (v := (7 : Int32)) (by decide) ?_
  refine zm_callSz (as := [.int a2, .int (7 : Int32)]) (rest := []) dX7_answer_12 rfl mtX7_within lkX7_62 rfl (Nat.le_of_ble_eq_true rfl) hC rfl (fun r u hq => ?_)
  exact k r u hq
theorem gX7_answer_15 {d : Nat} {Q : Value → zm_S → Prop} {w : zm_S} {a1 : Int32} {a2 : Int32} {a3 : Int32} {a4 : Int32} {s0 : Int32} (kt : s0 = 0 → zm_T zc_H d mX7_answer Q 38 [] [] w) (kf : ¬ s0 = 0 → zm_T zc_H d mX7_answer Q 18 [(0, .ref 0), (1, .int a1), (2, .int a2), (3, .int a3), (4, .int a4)] [] w) : zm_T zc_H d mX7_answer Q 15 [(0, .ref 0), (1, .int a1), (2, .int a2), (3, .int a3), (4, .int a4)] [.int s0] w := by
  refine zm_if_eq 38 dX7_answer_15 (by decide) (fun h => ?_) (fun h => ?_)
  · refine zm_sub [] rfl ?_
    exact kt h
  · exact kf h
theorem gX7_answer_18 {d : Nat} {Q : Value → zm_S → Prop} {w : zm_S} {a1 : Int32} {a2 : Int32} {a3 : Int32} {a4 : Int32} {Q' : Value → zm_S → Prop} (hC : zm_C zc_H d mX7_within [.int a3, .int (3 : Int32)] w Q') (k : ∀ (r : Int32) (u : zm_S), Q' (.int r) u → zm_T zc_H (d + 1) mX7_answer Q 23 [(0, .ref 0), (1, .int a1), (2, .int a2), (3, .int a3), (4, .int a4)] [.int r] u) : zm_T zc_H (d + 1) mX7_answer Q 18 [(0, .ref 0), (1, .int a1), (2, .int a2), (3, .int a3), (4, .int a4)] [] w := by
  refine zm_iload_n (x := a3) 3 dX7_answer_18 rfl rfl ?_
  refine zm_iconst dX7_answer_19 (v := (3 : Int32)) (by decide) ?_
  refine zm_callSz (as := [.int a3, .int (3 : Int32)]) (rest := []) dX7_answer_20 rfl mtX7_within lkX7_62 rfl (Nat.le_of_ble_eq_true rfl) hC rfl (fun r u hq => ?_)
  exact k r u hq
theorem gX7_answer_23 {d : Nat} {Q : Value → zm_S → Prop} {w : zm_S} {a1 : Int32} {a2 : Int32} {a3 : Int32} {a4 : Int32} {s0 : Int32} (kt : s0 = 0 → zm_T zc_H d mX7_answer Q 38 [] [] w) (kf : ¬ s0 = 0 → zm_T zc_H d mX7_answer Q 26 [(0, .ref 0), (1, .int a1), (2, .int a2), (3, .int a3), (4, .int a4)] [] w) : zm_T zc_H d mX7_answer Q 23 [(0, .ref 0), (1, .int a1), (2, .int a2), (3, .int a3), (4, .int a4)] [.int s0] w := by
  refine zm_if_eq 38 dX7_answer_23 (by decide) (fun h => ?_) (fun h => ?_)
  · refine zm_sub [] rfl ?_
    exact kt h
  · exact kf h
theorem gX7_answer_26 {d : Nat} {Q : Value → zm_S → Prop} {w : zm_S} {a1 : Int32} {a2 : Int32} {a3 : Int32} {a4 : Int32} {Q' : Value → zm_S → Prop} (hC : zm_C zc_H d mX0_timeFits [.ref 2, .int a4] w Q') (k : ∀ (r : Int32) (u : zm_S), Q' (.int r) u → zm_T zc_H (d + 1) mX7_answer Q 35 [(0, .ref 0), (1, .int a1), (2, .int a2), (3, .int a3), (4, .int a4)] [.int r] u) : zm_T zc_H (d + 1) mX7_answer Q 26 [(0, .ref 0), (1, .int a1), (2, .int a2), (3, .int a3), (4, .int a4)] [] w := by
  refine zm_aload_n (x := 0) 0 dX7_answer_26 rfl rfl ?_
  refine zm_getf (v := .ref 2) (j := 1) dX7_answer_27 clX7 flX7_16 (Nat.le_of_ble_eq_true rfl) zc_H0 rfl rfl ?_
  refine zm_iload (x := a4) 4 dX7_answer_30 rfl ?_
  refine zm_callVz (as := [.int a4]) (rest := []) dX7_answer_32 rfl mtX0_timeFits lkX7_81 zc_H2 (C := RX0) rfl rfl rfl (Nat.le_of_ble_eq_true rfl) hC rfl (fun r u hq => ?_)
  exact k r u hq
theorem gX7_answer_35 {d : Nat} {Q : Value → zm_S → Prop} {w : zm_S} {a1 : Int32} {a2 : Int32} {a3 : Int32} {a4 : Int32} {s0 : Int32} (kt : ¬ s0 = 0 → zm_T zc_H d mX7_answer Q 41 [(0, .ref 0), (1, .int a1), (2, .int a2), (3, .int a3), (4, .int a4)] [] w) (kf : s0 = 0 → zm_T zc_H d mX7_answer Q 38 [] [] w) : zm_T zc_H d mX7_answer Q 35 [(0, .ref 0), (1, .int a1), (2, .int a2), (3, .int a3), (4, .int a4)] [.int s0] w := by
  refine zm_if_ne 41 dX7_answer_35 (by decide) (fun h => ?_) (fun h => ?_)
  · exact kt h
  · refine zm_sub [] rfl ?_
    exact kf h
theorem gX7_answer_38 {d : Nat} {Q : Value → zm_S → Prop} {w : zm_S} (k : Q (.int (-2 : Int32)) w) : zm_T zc_H d mX7_answer Q 38 [] [] w := by
  refine zm_bipush dX7_answer_38 (v := (-2 : Int32)) (by decide) ?_
  exact zm_ireturn dX7_answer_40 rfl k
theorem gX7_answer_41 {d : Nat} {Q : Value → zm_S → Prop} {w : zm_S} {a1 : Int32} {a2 : Int32} {a3 : Int32} {a4 : Int32} {Q' : Value → zm_S → Prop} (hC : zm_C zc_H d mX0_isFull [.ref 2] w Q') (k : ∀ (r : Int32) (u : zm_S), Q' (.int r) u → zm_T zc_H (d + 1) mX7_answer Q 48 [(0, .ref 0), (1, .int a1), (2, .int a2), (3, .int a3), (4, .int a4)] [.int r] u) : zm_T zc_H (d + 1) mX7_answer Q 41 [(0, .ref 0), (1, .int a1), (2, .int a2), (3, .int a3), (4, .int a4)] [] w := by
  refine zm_aload_n (x := 0) 0 dX7_answer_41 rfl rfl ?_
  refine zm_getf (v := .ref 2) (j := 1) dX7_answer_42 clX7 flX7_16 (Nat.le_of_ble_eq_true rfl) zc_H0 rfl rfl ?_
  refine zm_callVz (as := []) (rest := []) dX7_answer_45 rfl mtX0_isFull lkX7_85 zc_H2 (C := RX0) rfl rfl rfl (Nat.le_of_ble_eq_true rfl) hC rfl (fun r u hq => ?_)
  exact k r u hq
theorem gX7_answer_48 {d : Nat} {Q : Value → zm_S → Prop} {w : zm_S} {a1 : Int32} {a2 : Int32} {a3 : Int32} {a4 : Int32} {s0 : Int32} (kt : s0 = 0 → zm_T zc_H d mX7_answer Q 54 [(0, .ref 0), (1, .int a1), (2, .int a2), (3, .int a3), (4, .int a4)] [] w) (kf : ¬ s0 = 0 → zm_T zc_H d mX7_answer Q 51 [] [] w) : zm_T zc_H d mX7_answer Q 48 [(0, .ref 0), (1, .int a1), (2, .int a2), (3, .int a3), (4, .int a4)] [.int s0] w := by
  refine zm_if_eq 54 dX7_answer_48 (by decide) (fun h => ?_) (fun h => ?_)
  · exact kt h
  · refine zm_sub [] rfl ?_
    exact kf h
theorem gX7_answer_51 {d : Nat} {Q : Value → zm_S → Prop} {w : zm_S} (k : Q (.int (-4 : Int32)) w) : zm_T zc_H d mX7_answer Q 51 [] [] w := by
  refine zm_bipush dX7_answer_51 (v := (-4 : Int32)) (by decide) ?_
  exact zm_ireturn dX7_answer_53 rfl k
theorem gX7_answer_54 {d : Nat} {Q : Value → zm_S → Prop} {w : zm_S} {a1 : Int32} {a2 : Int32} {a3 : Int32} {a4 : Int32} {Q' : Value → zm_S → Prop} (hC : zm_C zc_H d mX7_tellOne [.ref 0, .int a1, .int a2, .int a3, .int a4] w Q') (k : ∀ (u : zm_S), Q' .null u → zm_T zc_H (d + 1) mX7_answer Q 63 [(0, .ref 0)] [] u) : zm_T zc_H (d + 1) mX7_answer Q 54 [(0, .ref 0), (1, .int a1), (2, .int a2), (3, .int a3), (4, .int a4)] [] w := by
  refine zm_aload_n (x := 0) 0 dX7_answer_54 rfl rfl ?_
  refine zm_iload_n (x := a1) 1 dX7_answer_55 rfl rfl ?_
  refine zm_iload_n (x := a2) 2 dX7_answer_56 rfl rfl ?_
  refine zm_iload_n (x := a3) 3 dX7_answer_57 rfl rfl ?_
  refine zm_iload (x := a4) 4 dX7_answer_58 rfl ?_
  refine zm_callVv (as := [.int a1, .int a2, .int a3, .int a4]) (rest := []) dX7_answer_60 rfl mtX7_tellOne lkX7_89 zc_H0 (C := RX7) rfl rfl rfl (Nat.le_of_ble_eq_true rfl) hC rfl (fun u hq => ?_)
  refine zm_sub [0] rfl ?_
  exact k u hq
theorem gX7_answer_63 {d : Nat} {Q : Value → zm_S → Prop} {w : zm_S} (k : Q (.int (w.1 2 8)) w) : zm_T zc_H d mX7_answer Q 63 [(0, .ref 0)] [] w := by
  refine zm_aload_n (x := 0) 0 dX7_answer_63 rfl rfl ?_
  refine zm_getf (v := .ref 2) (j := 1) dX7_answer_64 clX7 flX7_16 (Nat.le_of_ble_eq_true rfl) zc_H0 rfl rfl ?_
  refine zm_getf (v := .int (w.1 2 8)) (j := 8) dX7_answer_67 clX0 flX7_93 (Nat.le_of_ble_eq_true rfl) zc_H2 rfl rfl ?_
  exact zm_ireturn dX7_answer_70 rfl k
theorem gX7_read_0 {d : Nat} {Q : Value → zm_S → Prop} {w : zm_S} {a1 : Int32} {a2 : Int32} {a3 : Int32} {Q' : Value → zm_S → Prop} (hC : zm_C zc_H d mX7_within [.int a1, .int (4 : Int32)] w Q') (k : ∀ (r : Int32) (u : zm_S), Q' (.int r) u → zm_T zc_H (d + 1) mX7_read Q 5 [(0, .ref 0), (1, .int a1), (2, .int a2), (3, .int a3)] [.int r] u) : zm_T zc_H (d + 1) mX7_read Q 0 [(0, .ref 0), (1, .int a1), (2, .int a2), (3, .int a3)] [] w := by
  refine zm_iload_n (x := a1) 1 dX7_read_0 rfl rfl ?_
  refine zm_iconst dX7_read_1 (v := (4 : Int32)) (by decide) ?_
  refine zm_callSz (as := [.int a1, .int (4 : Int32)]) (rest := []) dX7_read_2 rfl mtX7_within lkX7_62 rfl (Nat.le_of_ble_eq_true rfl) hC rfl (fun r u hq => ?_)
  exact k r u hq
theorem gX7_read_5 {d : Nat} {Q : Value → zm_S → Prop} {w : zm_S} {a1 : Int32} {a2 : Int32} {a3 : Int32} {s0 : Int32} (kt : s0 = 0 → zm_T zc_H d mX7_read Q 28 [] [] w) (kf : ¬ s0 = 0 → zm_T zc_H d mX7_read Q 8 [(0, .ref 0), (1, .int a1), (2, .int a2), (3, .int a3)] [] w) : zm_T zc_H d mX7_read Q 5 [(0, .ref 0), (1, .int a1), (2, .int a2), (3, .int a3)] [.int s0] w := by
  refine zm_if_eq 28 dX7_read_5 (by decide) (fun h => ?_) (fun h => ?_)
  · refine zm_sub [] rfl ?_
    exact kt h
  · exact kf h
theorem gX7_read_8 {d : Nat} {Q : Value → zm_S → Prop} {w : zm_S} {a1 : Int32} {a2 : Int32} {a3 : Int32} {Q' : Value → zm_S → Prop} (hC : zm_C zc_H d mX7_within [.int a2, .int (12 : Int32)] w Q') (k : ∀ (r : Int32) (u : zm_S), Q' (.int r) u → zm_T zc_H (d + 1) mX7_read Q 14 [(0, .ref 0), (1, .int a1), (2, .int a2), (3, .int a3)] [.int r] u) : zm_T zc_H (d + 1) mX7_read Q 8 [(0, .ref 0), (1, .int a1), (2, .int a2), (3, .int a3)] [] w := by
  refine zm_iload_n (x := a2) 2 dX7_read_8 rfl rfl ?_
  refine zm_bipush dX7_read_9 (v := (12 : Int32)) (by decide) ?_
  refine zm_callSz (as := [.int a2, .int (12 : Int32)]) (rest := []) dX7_read_11 rfl mtX7_within lkX7_62 rfl (Nat.le_of_ble_eq_true rfl) hC rfl (fun r u hq => ?_)
  exact k r u hq
theorem gX7_read_14 {d : Nat} {Q : Value → zm_S → Prop} {w : zm_S} {a1 : Int32} {a2 : Int32} {a3 : Int32} {s0 : Int32} (kt : s0 = 0 → zm_T zc_H d mX7_read Q 28 [] [] w) (kf : ¬ s0 = 0 → zm_T zc_H d mX7_read Q 17 [(0, .ref 0), (1, .int a1), (2, .int a2), (3, .int a3)] [] w) : zm_T zc_H d mX7_read Q 14 [(0, .ref 0), (1, .int a1), (2, .int a2), (3, .int a3)] [.int s0] w := by
  refine zm_if_eq 28 dX7_read_14 (by decide) (fun h => ?_) (fun h => ?_)
  · refine zm_sub [] rfl ?_
    exact kt h
  · exact kf h
theorem gX7_read_17 {d : Nat} {Q : Value → zm_S → Prop} {w : zm_S} {a1 : Int32} {a2 : Int32} {a3 : Int32} {Q' : Value → zm_S → Prop} (hC : zm_C zc_H d mX0_timeFits [.ref 2, .int a3] w Q') (k : ∀ (r : Int32) (u : zm_S), Q' (.int r) u → zm_T zc_H (d + 1) mX7_read Q 25 [(0, .ref 0), (1, .int a1), (2, .int a2), (3, .int a3)] [.int r] u) : zm_T zc_H (d + 1) mX7_read Q 17 [(0, .ref 0), (1, .int a1), (2, .int a2), (3, .int a3)] [] w := by
  refine zm_aload_n (x := 0) 0 dX7_read_17 rfl rfl ?_
  refine zm_getf (v := .ref 2) (j := 1) dX7_read_18 clX7 flX7_16 (Nat.le_of_ble_eq_true rfl) zc_H0 rfl rfl ?_
  refine zm_iload_n (x := a3) 3 dX7_read_21 rfl rfl ?_
  refine zm_callVz (as := [.int a3]) (rest := []) dX7_read_22 rfl mtX0_timeFits lkX7_81 zc_H2 (C := RX0) rfl rfl rfl (Nat.le_of_ble_eq_true rfl) hC rfl (fun r u hq => ?_)
  exact k r u hq
theorem gX7_read_25 {d : Nat} {Q : Value → zm_S → Prop} {w : zm_S} {a1 : Int32} {a2 : Int32} {a3 : Int32} {s0 : Int32} (kt : ¬ s0 = 0 → zm_T zc_H d mX7_read Q 31 [(0, .ref 0), (1, .int a1), (2, .int a2), (3, .int a3)] [] w) (kf : s0 = 0 → zm_T zc_H d mX7_read Q 28 [] [] w) : zm_T zc_H d mX7_read Q 25 [(0, .ref 0), (1, .int a1), (2, .int a2), (3, .int a3)] [.int s0] w := by
  refine zm_if_ne 31 dX7_read_25 (by decide) (fun h => ?_) (fun h => ?_)
  · exact kt h
  · refine zm_sub [] rfl ?_
    exact kf h
theorem gX7_read_28 {d : Nat} {Q : Value → zm_S → Prop} {w : zm_S} (k : Q (.int (-2 : Int32)) w) : zm_T zc_H d mX7_read Q 28 [] [] w := by
  refine zm_bipush dX7_read_28 (v := (-2 : Int32)) (by decide) ?_
  exact zm_ireturn dX7_read_30 rfl k
theorem gX7_read_31 {d : Nat} {Q : Value → zm_S → Prop} {w : zm_S} {a1 : Int32} {a2 : Int32} {a3 : Int32} {q36 : Nat} (hi36 : vp_in a1 4) (hq36 : ([40, 42, 44, 46] : List Nat)[(a1).toNatClampNeg]? = some q36) (kt : (w.1 q36 1) = 0 → zm_T zc_H d mX7_read Q 53 [(0, .ref 0), (2, .int a2), (3, .int a3), (4, .ref q36)] [] w) (kf : ¬ (w.1 q36 1) = 0 → zm_T zc_H d mX7_read Q 47 [(0, .ref 0)] [] w) : zm_T zc_H d mX7_read Q 31 [(0, .ref 0), (1, .int a1), (2, .int a2), (3, .int a3)] [] w := by
  refine zm_aload_n (x := 0) 0 dX7_read_31 rfl rfl ?_
  refine zm_getf (v := .ref 39) (j := 7) dX7_read_32 clX7 flX7_57 (Nat.le_of_ble_eq_true rfl) zc_H0 rfl rfl ?_
  refine zm_iload_n (x := a1) 1 dX7_read_35 rfl rfl ?_
  refine zm_aald dX7_read_36 zc_H39 hi36 hq36 ?_
  refine zm_astore dX7_read_37 (Nat.le_of_ble_eq_true rfl) (ls' := [(4, .ref q36), (0, .ref 0), (1, .int a1), (2, .int a2), (3, .int a3)]) rfl ?_
  refine zm_aload (x := q36) 0 dX7_read_39 rfl ?_
  refine zm_getf (v := .int (w.1 q36 1)) (j := 1) dX7_read_41 clX5 flX7_97 (Nat.le_of_ble_eq_true rfl) (zc_sh_of hq36).1 rfl rfl ?_
  refine zm_if_eq 53 dX7_read_44 (by decide) (fun h => ?_) (fun h => ?_)
  · refine zm_sub [1, 3, 4, 0] rfl ?_
    exact kt h
  · refine zm_sub [1] rfl ?_
    exact kf h
theorem gX7_read_47 {d : Nat} {Q : Value → zm_S → Prop} {w : zm_S} {Q' : Value → zm_S → Prop} (hC : zm_C zc_H d mX7_tellFinding [.ref 0, .int (1 : Int32)] w Q') (k : ∀ (r : Int32) (u : zm_S), Q' (.int r) u → zm_T zc_H (d + 1) mX7_read Q 52 [] [.int r] u) : zm_T zc_H (d + 1) mX7_read Q 47 [(0, .ref 0)] [] w := by
  refine zm_aload_n (x := 0) 0 dX7_read_47 rfl rfl ?_
  refine zm_iconst dX7_read_48 (v := (1 : Int32)) (by decide) ?_
  refine zm_callVi (as := [.int (1 : Int32)]) (rest := []) dX7_read_49 rfl mtX7_tellFinding lkX7_100 zc_H0 (C := RX7) rfl rfl rfl (Nat.le_of_ble_eq_true rfl) hC rfl (fun r u hq => ?_)
  refine zm_sub [] rfl ?_
  exact k r u hq
theorem gX7_read_52 {d : Nat} {Q : Value → zm_S → Prop} {w : zm_S} {s0 : Int32} (k : Q (.int s0) w) : zm_T zc_H d mX7_read Q 52 [] [.int s0] w := by
  exact zm_ireturn dX7_read_52 rfl k
theorem gX7_read_53 {d : Nat} {Q : Value → zm_S → Prop} {w : zm_S} {a2 : Int32} {a3 : Int32} {oa4 : Nat} (hoa4 : zc_sh oa4) (k : zm_T zc_H d mX7_read Q 68 [(0, .ref 0), (2, .int a2), (3, .int a3), (4, .ref oa4), (5, .int (if (w.1 oa4 3) < (7 : Int32) then (w.1 oa4 3) else (7 : Int32))), (6, .int (0 : Int32))] [] w) : zm_T zc_H d mX7_read Q 53 [(0, .ref 0), (2, .int a2), (3, .int a3), (4, .ref oa4)] [] w := by
  refine zm_bipush dX7_read_53 (v := (7 : Int32)) (by decide) ?_
  refine zm_aload (x := oa4) 3 dX7_read_55 rfl ?_
  refine zm_getf (v := .int (w.1 oa4 3)) (j := 3) dX7_read_57 clX5 flX7_104 (Nat.le_of_ble_eq_true rfl) hoa4.1 rfl rfl ?_
  refine zm_mmin dX7_read_60 lkX7_107 zm_mmmin (Nat.le_of_ble_eq_true rfl) ?_
  refine zm_istore dX7_read_63 (Nat.le_of_ble_eq_true rfl) (ls' := [(5, .int (if (w.1 oa4 3) < (7 : Int32) then (w.1 oa4 3) else (7 : Int32))), (0, .ref 0), (2, .int a2), (3, .int a3), (4, .ref oa4)]) rfl ?_
  refine zm_iconst dX7_read_65 (v := (0 : Int32)) (by decide) ?_
  refine zm_istore dX7_read_66 (Nat.le_of_ble_eq_true rfl) (ls' := [(6, .int (0 : Int32)), (5, .int (if (w.1 oa4 3) < (7 : Int32) then (w.1 oa4 3) else (7 : Int32))), (0, .ref 0), (2, .int a2), (3, .int a3), (4, .ref oa4)]) rfl ?_
  refine zm_sub [2, 3, 4, 5, 1, 0] rfl ?_
  exact k
theorem gX7_read_68 {d : Nat} {Q : Value → zm_S → Prop} {w : zm_S} {a2 : Int32} {a3 : Int32} {oa4 : Nat} {a5 : Int32} {a6 : Int32} (hoa4 : zc_sh oa4) (kt : a5 ≤ a6 → zm_T zc_H d mX7_read Q 123 [(5, .int a5)] [] w) (kf : ¬ a5 ≤ a6 → zm_T zc_H d mX7_read Q 75 [(0, .ref 0), (2, .int a2), (3, .int a3), (4, .ref oa4), (5, .int a5), (6, .int a6)] [] w) : zm_T zc_H d mX7_read Q 68 [(0, .ref 0), (2, .int a2), (3, .int a3), (4, .ref oa4), (5, .int a5), (6, .int a6)] [] w := by
  refine zm_iload (x := a6) 5 dX7_read_68 rfl ?_
  refine zm_iload (x := a5) 4 dX7_read_70 rfl ?_
  refine zm_icmp_ge 123 dX7_read_72 (by decide) (fun h => ?_) (fun h => ?_)
  · refine zm_sub [4] rfl ?_
    exact kt h
  · exact kf h
theorem gX7_read_75 {d : Nat} {Q : Value → zm_S → Prop} {w : zm_S} {a2 : Int32} {a3 : Int32} {oa4 : Nat} {a5 : Int32} {a6 : Int32} {Q' : Value → zm_S → Prop} (hoa4 : zc_sh oa4) (hi82 : vp_in a6 60) (hC : zm_C zc_H d mX7_within [.int (w.1 (oa4 + 1) (a6).toNatClampNeg), .int (3 : Int32)] w Q') (k : ∀ (r : Int32) (u : zm_S), Q' (.int r) u → zm_T zc_H (d + 1) mX7_read Q 91 [(0, .ref 0), (2, .int a2), (3, .int a3), (4, .ref oa4), (5, .int a5), (6, .int a6), (7, .int (w.1 (oa4 + 1) (a6).toNatClampNeg))] [.int r] u) : zm_T zc_H (d + 1) mX7_read Q 75 [(0, .ref 0), (2, .int a2), (3, .int a3), (4, .ref oa4), (5, .int a5), (6, .int a6)] [] w := by
  refine zm_aload (x := oa4) 3 dX7_read_75 rfl ?_
  refine zm_getf (v := .ref (oa4 + 1)) (j := 0) dX7_read_77 clX5 flX7_113 (Nat.le_of_ble_eq_true rfl) hoa4.1 rfl rfl ?_
  refine zm_iload (x := a6) 5 dX7_read_80 rfl ?_
  refine zm_iald dX7_read_82 hoa4.2 hi82 ?_
  refine zm_istore dX7_read_83 (Nat.le_of_ble_eq_true rfl) (ls' := [(7, .int (w.1 (oa4 + 1) (a6).toNatClampNeg)), (0, .ref 0), (2, .int a2), (3, .int a3), (4, .ref oa4), (5, .int a5), (6, .int a6)]) rfl ?_
  refine zm_iload (x := (w.1 (oa4 + 1) (a6).toNatClampNeg)) 0 dX7_read_85 rfl ?_
  refine zm_iconst dX7_read_87 (v := (3 : Int32)) (by decide) ?_
  refine zm_callSz (as := [.int (w.1 (oa4 + 1) (a6).toNatClampNeg), .int (3 : Int32)]) (rest := []) dX7_read_88 rfl mtX7_within lkX7_62 rfl (Nat.le_of_ble_eq_true rfl) hC rfl (fun r u hq => ?_)
  refine zm_sub [1, 2, 3, 4, 5, 6, 0] rfl ?_
  exact k r u hq
theorem gX7_read_91 {d : Nat} {Q : Value → zm_S → Prop} {w : zm_S} {a2 : Int32} {a3 : Int32} {oa4 : Nat} {a5 : Int32} {a6 : Int32} {a7 : Int32} {s0 : Int32} (hoa4 : zc_sh oa4) (kt : s0 = 0 → zm_T zc_H d mX7_read Q 104 [(6, .int a6)] [] w) (kf : ¬ s0 = 0 → zm_T zc_H d mX7_read Q 94 [(0, .ref 0), (2, .int a2), (3, .int a3), (4, .ref oa4), (5, .int a5), (6, .int a6), (7, .int a7)] [] w) : zm_T zc_H d mX7_read Q 91 [(0, .ref 0), (2, .int a2), (3, .int a3), (4, .ref oa4), (5, .int a5), (6, .int a6), (7, .int a7)] [.int s0] w := by
  refine zm_if_eq 104 dX7_read_91 (by decide) (fun h => ?_) (fun h => ?_)
  · refine zm_sub [5] rfl ?_
    exact kt h
  · exact kf h
theorem gX7_read_94 {d : Nat} {Q : Value → zm_S → Prop} {w : zm_S} {a2 : Int32} {a3 : Int32} {oa4 : Nat} {a5 : Int32} {a6 : Int32} {a7 : Int32} {Q' : Value → zm_S → Prop} (hoa4 : zc_sh oa4) (hC : zm_C zc_H d mX0_isFull [.ref 2] w Q') (k : ∀ (r : Int32) (u : zm_S), Q' (.int r) u → zm_T zc_H (d + 1) mX7_read Q 101 [(0, .ref 0), (2, .int a2), (3, .int a3), (4, .ref oa4), (5, .int a5), (6, .int a6), (7, .int a7)] [.int r] u) : zm_T zc_H (d + 1) mX7_read Q 94 [(0, .ref 0), (2, .int a2), (3, .int a3), (4, .ref oa4), (5, .int a5), (6, .int a6), (7, .int a7)] [] w := by
  refine zm_aload_n (x := 0) 0 dX7_read_94 rfl rfl ?_
  refine zm_getf (v := .ref 2) (j := 1) dX7_read_95 clX7 flX7_16 (Nat.le_of_ble_eq_true rfl) zc_H0 rfl rfl ?_
  refine zm_callVz (as := []) (rest := []) dX7_read_98 rfl mtX0_isFull lkX7_85 zc_H2 (C := RX0) rfl rfl rfl (Nat.le_of_ble_eq_true rfl) hC rfl (fun r u hq => ?_)
  exact k r u hq
theorem gX7_read_101 {d : Nat} {Q : Value → zm_S → Prop} {w : zm_S} {a2 : Int32} {a3 : Int32} {oa4 : Nat} {a5 : Int32} {a6 : Int32} {a7 : Int32} {s0 : Int32} (hoa4 : zc_sh oa4) (kt : s0 = 0 → zm_T zc_H d mX7_read Q 107 [(0, .ref 0), (2, .int a2), (3, .int a3), (4, .ref oa4), (5, .int a5), (6, .int a6), (7, .int a7)] [] w) (kf : ¬ s0 = 0 → zm_T zc_H d mX7_read Q 104 [(6, .int a6)] [] w) : zm_T zc_H d mX7_read Q 101 [(0, .ref 0), (2, .int a2), (3, .int a3), (4, .ref oa4), (5, .int a5), (6, .int a6), (7, .int a7)] [.int s0] w := by
  refine zm_if_eq 107 dX7_read_101 (by decide) (fun h => ?_) (fun h => ?_)
  · exact kt h
  · refine zm_sub [5] rfl ?_
    exact kf h
theorem gX7_read_104 {d : Nat} {Q : Value → zm_S → Prop} {w : zm_S} {a6 : Int32} (k : Q (.int a6) w) : zm_T zc_H d mX7_read Q 104 [(6, .int a6)] [] w := by
  refine zm_iload (x := a6) 0 dX7_read_104 rfl ?_
  exact zm_ireturn dX7_read_106 rfl k
theorem gX7_read_107 {d : Nat} {Q : Value → zm_S → Prop} {w : zm_S} {a2 : Int32} {a3 : Int32} {oa4 : Nat} {a5 : Int32} {a6 : Int32} {a7 : Int32} {Q' : Value → zm_S → Prop} (hoa4 : zc_sh oa4) (hC : zm_C zc_H d mX7_tellOne [.ref 0, .int a2, .int a6, .int a7, .int a3] w Q') (k : ∀ (u : zm_S), Q' .null u → zm_T zc_H (d + 1) mX7_read Q 117 [(0, .ref 0), (2, .int a2), (3, .int a3), (4, .ref oa4), (5, .int a5), (6, .int a6)] [] u) : zm_T zc_H (d + 1) mX7_read Q 107 [(0, .ref 0), (2, .int a2), (3, .int a3), (4, .ref oa4), (5, .int a5), (6, .int a6), (7, .int a7)] [] w := by
  refine zm_aload_n (x := 0) 0 dX7_read_107 rfl rfl ?_
  refine zm_iload_n (x := a2) 1 dX7_read_108 rfl rfl ?_
  refine zm_iload (x := a6) 5 dX7_read_109 rfl ?_
  refine zm_iload (x := a7) 6 dX7_read_111 rfl ?_
  refine zm_iload_n (x := a3) 2 dX7_read_113 rfl rfl ?_
  refine zm_callVv (as := [.int a2, .int a6, .int a7, .int a3]) (rest := []) dX7_read_114 rfl mtX7_tellOne lkX7_89 zc_H0 (C := RX7) rfl rfl rfl (Nat.le_of_ble_eq_true rfl) hC rfl (fun u hq => ?_)
  refine zm_sub [0, 1, 2, 3, 4, 5] rfl ?_
  exact k u hq
theorem gX7_read_117 {d : Nat} {Q : Value → zm_S → Prop} {w : zm_S} {a2 : Int32} {a3 : Int32} {oa4 : Nat} {a5 : Int32} {a6 : Int32} (hoa4 : zc_sh oa4) (k : zm_T zc_H d mX7_read Q 68 [(0, .ref 0), (2, .int a2), (3, .int a3), (4, .ref oa4), (5, .int a5), (6, .int (a6 + (1 : Int32)))] [] w) : zm_T zc_H d mX7_read Q 117 [(0, .ref 0), (2, .int a2), (3, .int a3), (4, .ref oa4), (5, .int a5), (6, .int a6)] [] w := by
  refine zm_iinc 5 dX7_read_117 (x := a6) (v := (a6 + (1 : Int32))) rfl rfl (Nat.le_of_ble_eq_true rfl) (ls' := [(6, .int (a6 + (1 : Int32))), (0, .ref 0), (2, .int a2), (3, .int a3), (4, .ref oa4), (5, .int a5)]) rfl ?_
  refine zm_goto 68 dX7_read_120 (by decide) ?_
  refine zm_sub [1, 2, 3, 4, 5, 0] rfl ?_
  exact k
theorem gX7_read_123 {d : Nat} {Q : Value → zm_S → Prop} {w : zm_S} {a5 : Int32} (k : Q (.int a5) w) : zm_T zc_H d mX7_read Q 123 [(5, .int a5)] [] w := by
  refine zm_iload (x := a5) 0 dX7_read_123 rfl ?_
  exact zm_ireturn dX7_read_125 rfl k
theorem gX7_said_0 {d : Nat} {Q : Value → zm_S → Prop} {w : zm_S} {a1 : Int32} {a2 : Int32} {Q' : Value → zm_S → Prop} (hC : zm_C zc_H d mX7_within [.int a1, .int (12 : Int32)] w Q') (k : ∀ (r : Int32) (u : zm_S), Q' (.int r) u → zm_T zc_H (d + 1) mX7_said Q 6 [(0, .ref 0), (1, .int a1), (2, .int a2)] [.int r] u) : zm_T zc_H (d + 1) mX7_said Q 0 [(0, .ref 0), (1, .int a1), (2, .int a2)] [] w := by
  refine zm_iload_n (x := a1) 1 dX7_said_0 rfl rfl ?_
  refine zm_bipush dX7_said_1 (v := (12 : Int32)) (by decide) ?_
  refine zm_callSz (as := [.int a1, .int (12 : Int32)]) (rest := []) dX7_said_3 rfl mtX7_within lkX7_62 rfl (Nat.le_of_ble_eq_true rfl) hC rfl (fun r u hq => ?_)
  exact k r u hq
theorem gX7_said_6 {d : Nat} {Q : Value → zm_S → Prop} {w : zm_S} {a1 : Int32} {a2 : Int32} {s0 : Int32} (kt : s0 = 0 → zm_T zc_H d mX7_said Q 18 [] [] w) (kf : ¬ s0 = 0 → zm_T zc_H d mX7_said Q 9 [(0, .ref 0), (1, .int a1), (2, .int a2)] [] w) : zm_T zc_H d mX7_said Q 6 [(0, .ref 0), (1, .int a1), (2, .int a2)] [.int s0] w := by
  refine zm_if_eq 18 dX7_said_6 (by decide) (fun h => ?_) (fun h => ?_)
  · refine zm_sub [] rfl ?_
    exact kt h
  · exact kf h
theorem gX7_said_9 {d : Nat} {Q : Value → zm_S → Prop} {w : zm_S} {a1 : Int32} {a2 : Int32} {Q' : Value → zm_S → Prop} (hC : zm_C zc_H d mX7_within [.int a2, .int (7 : Int32)] w Q') (k : ∀ (r : Int32) (u : zm_S), Q' (.int r) u → zm_T zc_H (d + 1) mX7_said Q 15 [(0, .ref 0), (1, .int a1), (2, .int a2)] [.int r] u) : zm_T zc_H (d + 1) mX7_said Q 9 [(0, .ref 0), (1, .int a1), (2, .int a2)] [] w := by
  refine zm_iload_n (x := a2) 2 dX7_said_9 rfl rfl ?_
  refine zm_bipush dX7_said_10 (v := (7 : Int32)) (by decide) ?_
  refine zm_callSz (as := [.int a2, .int (7 : Int32)]) (rest := []) dX7_said_12 rfl mtX7_within lkX7_62 rfl (Nat.le_of_ble_eq_true rfl) hC rfl (fun r u hq => ?_)
  exact k r u hq
theorem gX7_said_15 {d : Nat} {Q : Value → zm_S → Prop} {w : zm_S} {a1 : Int32} {a2 : Int32} {s0 : Int32} (kt : ¬ s0 = 0 → zm_T zc_H d mX7_said Q 21 [(0, .ref 0), (1, .int a1), (2, .int a2)] [] w) (kf : s0 = 0 → zm_T zc_H d mX7_said Q 18 [] [] w) : zm_T zc_H d mX7_said Q 15 [(0, .ref 0), (1, .int a1), (2, .int a2)] [.int s0] w := by
  refine zm_if_ne 21 dX7_said_15 (by decide) (fun h => ?_) (fun h => ?_)
  · exact kt h
  · refine zm_sub [] rfl ?_
    exact kf h
theorem gX7_said_18 {d : Nat} {Q : Value → zm_S → Prop} {w : zm_S} (k : Q (.int (-2 : Int32)) w) : zm_T zc_H d mX7_said Q 18 [] [] w := by
  refine zm_bipush dX7_said_18 (v := (-2 : Int32)) (by decide) ?_
  exact zm_ireturn dX7_said_20 rfl k
theorem gX7_said_21 {d : Nat} {Q : Value → zm_S → Prop} {w : zm_S} {a1 : Int32} {a2 : Int32} {Q' : Value → zm_S → Prop} (hC : zm_C zc_H d mX0_heard [.ref 2, .int a1, .int a2] w Q') (k : ∀ (r : Int32) (u : zm_S), Q' (.int r) u → zm_T zc_H (d + 1) mX7_said Q 30 [] [.int r] u) : zm_T zc_H (d + 1) mX7_said Q 21 [(0, .ref 0), (1, .int a1), (2, .int a2)] [] w := by
  refine zm_aload_n (x := 0) 0 dX7_said_21 rfl rfl ?_
  refine zm_getf (v := .ref 2) (j := 1) dX7_said_22 clX7 flX7_16 (Nat.le_of_ble_eq_true rfl) zc_H0 rfl rfl ?_
  refine zm_iload_n (x := a1) 1 dX7_said_25 rfl rfl ?_
  refine zm_iload_n (x := a2) 2 dX7_said_26 rfl rfl ?_
  refine zm_callVi (as := [.int a1, .int a2]) (rest := []) dX7_said_27 rfl mtX0_heard lkX7_116 zc_H2 (C := RX0) rfl rfl rfl (Nat.le_of_ble_eq_true rfl) hC rfl (fun r u hq => ?_)
  refine zm_sub [] rfl ?_
  exact k r u hq
theorem gX7_said_30 {d : Nat} {Q : Value → zm_S → Prop} {w : zm_S} {s0 : Int32} (k : Q (.int s0) w) : zm_T zc_H d mX7_said Q 30 [] [.int s0] w := by
  exact zm_ireturn dX7_said_30 rfl k
theorem gX7_type_0 {d : Nat} {Q : Value → zm_S → Prop} {w : zm_S} {a1 : Int32} {Q' : Value → zm_S → Prop} (hC : zm_C zc_H d mX7_within [.int a1, .int (256 : Int32)] w Q') (k : ∀ (r : Int32) (u : zm_S), Q' (.int r) u → zm_T zc_H (d + 1) mX7_type Q 7 [(0, .ref 0), (1, .int a1)] [.int r] u) : zm_T zc_H (d + 1) mX7_type Q 0 [(0, .ref 0), (1, .int a1)] [] w := by
  refine zm_iload_n (x := a1) 1 dX7_type_0 rfl rfl ?_
  refine zm_sipush dX7_type_1 (v := (256 : Int32)) (by decide) ?_
  refine zm_callSz (as := [.int a1, .int (256 : Int32)]) (rest := []) dX7_type_4 rfl mtX7_within lkX7_62 rfl (Nat.le_of_ble_eq_true rfl) hC rfl (fun r u hq => ?_)
  exact k r u hq
theorem gX7_type_7 {d : Nat} {Q : Value → zm_S → Prop} {w : zm_S} {a1 : Int32} {s0 : Int32} (kt : ¬ s0 = 0 → zm_T zc_H d mX7_type Q 13 [(0, .ref 0), (1, .int a1)] [] w) (kf : s0 = 0 → zm_T zc_H d mX7_type Q 10 [] [] w) : zm_T zc_H d mX7_type Q 7 [(0, .ref 0), (1, .int a1)] [.int s0] w := by
  refine zm_if_ne 13 dX7_type_7 (by decide) (fun h => ?_) (fun h => ?_)
  · exact kt h
  · refine zm_sub [] rfl ?_
    exact kf h
theorem gX7_type_10 {d : Nat} {Q : Value → zm_S → Prop} {w : zm_S} (k : Q (.int (-2 : Int32)) w) : zm_T zc_H d mX7_type Q 10 [] [] w := by
  refine zm_bipush dX7_type_10 (v := (-2 : Int32)) (by decide) ?_
  exact zm_ireturn dX7_type_12 rfl k
theorem gX7_type_13 {d : Nat} {Q : Value → zm_S → Prop} {w : zm_S} {a1 : Int32} (kt : (w.1 11 3) < (60 : Int32) → zm_T zc_H d mX7_type Q 28 [(0, .ref 0), (1, .int a1)] [] w) (kf : ¬ (w.1 11 3) < (60 : Int32) → zm_T zc_H d mX7_type Q 25 [] [] w) : zm_T zc_H d mX7_type Q 13 [(0, .ref 0), (1, .int a1)] [] w := by
  refine zm_aload_n (x := 0) 0 dX7_type_13 rfl rfl ?_
  refine zm_getf (v := .ref 11) (j := 2) dX7_type_14 clX7 flX7_23 (Nat.le_of_ble_eq_true rfl) zc_H0 rfl rfl ?_
  refine zm_getf (v := .int (w.1 11 3)) (j := 3) dX7_type_17 clX2 flX7_119 (Nat.le_of_ble_eq_true rfl) zc_H11 rfl rfl ?_
  refine zm_bipush dX7_type_20 (v := (60 : Int32)) (by decide) ?_
  refine zm_icmp_lt 28 dX7_type_22 (by decide) (fun h => ?_) (fun h => ?_)
  · exact kt h
  · refine zm_sub [] rfl ?_
    exact kf h
theorem gX7_type_25 {d : Nat} {Q : Value → zm_S → Prop} {w : zm_S} (k : Q (.int (-4 : Int32)) w) : zm_T zc_H d mX7_type Q 25 [] [] w := by
  refine zm_bipush dX7_type_25 (v := (-4 : Int32)) (by decide) ?_
  exact zm_ireturn dX7_type_27 rfl k
theorem gX7_type_28 {d : Nat} {Q : Value → zm_S → Prop} {w : zm_S} {a1 : Int32} {Q' : Value → zm_S → Prop} (hC : zm_C zc_H d mX2_append [.ref 11, .int a1] w Q') (k : ∀ (u : zm_S), Q' .null u → zm_T zc_H (d + 1) mX7_type Q 36 [(0, .ref 0)] [] u) : zm_T zc_H (d + 1) mX7_type Q 28 [(0, .ref 0), (1, .int a1)] [] w := by
  refine zm_aload_n (x := 0) 0 dX7_type_28 rfl rfl ?_
  refine zm_getf (v := .ref 11) (j := 2) dX7_type_29 clX7 flX7_23 (Nat.le_of_ble_eq_true rfl) zc_H0 rfl rfl ?_
  refine zm_iload_n (x := a1) 1 dX7_type_32 rfl rfl ?_
  refine zm_callVv (as := [.int a1]) (rest := []) dX7_type_33 rfl mtX2_append lkX7_122 zc_H11 (C := RX2) rfl rfl rfl (Nat.le_of_ble_eq_true rfl) hC rfl (fun u hq => ?_)
  refine zm_sub [0] rfl ?_
  exact k u hq
theorem gX7_type_36 {d : Nat} {Q : Value → zm_S → Prop} {w : zm_S} (k : Q (.int (w.1 11 3)) (zm_pi w 23 4 (0 : Int32))) : zm_T zc_H d mX7_type Q 36 [(0, .ref 0)] [] w := by
  refine zm_aload_n (x := 0) 0 dX7_type_36 rfl rfl ?_
  refine zm_getf (v := .ref 23) (j := 4) dX7_type_37 clX7 flX7_37 (Nat.le_of_ble_eq_true rfl) zc_H0 rfl rfl ?_
  refine zm_iconst dX7_type_40 (v := (0 : Int32)) (by decide) ?_
  refine zm_putf (j := 4) (ty := .boolean) dX7_type_41 clX6 flX7_80 (Nat.le_of_ble_eq_true rfl) zc_H23 rfl rfl (by decide +kernel) rfl (by decide) ?_
  refine zm_aload_n (x := 0) 0 dX7_type_44 rfl rfl ?_
  refine zm_getf (v := .ref 11) (j := 2) dX7_type_45 clX7 flX7_23 (Nat.le_of_ble_eq_true rfl) zc_H0 rfl rfl ?_
  refine zm_getf (v := .int (w.1 11 3)) (j := 3) dX7_type_48 clX2 flX7_119 (Nat.le_of_ble_eq_true rfl) zc_H11 rfl rfl ?_
  exact zm_ireturn dX7_type_51 rfl k
theorem gX7_wipe_0 {d : Nat} {Q : Value → zm_S → Prop} {w : zm_S} {Q' : Value → zm_S → Prop} (hC : zm_C zc_H d mX2_clear [.ref 11] w Q') (k : ∀ (u : zm_S), Q' .null u → zm_T zc_H (d + 1) mX7_wipe Q 15 [(0, .ref 0), (1, .int (w.1 11 3))] [] u) : zm_T zc_H (d + 1) mX7_wipe Q 0 [(0, .ref 0)] [] w := by
  refine zm_aload_n (x := 0) 0 dX7_wipe_0 rfl rfl ?_
  refine zm_getf (v := .ref 11) (j := 2) dX7_wipe_1 clX7 flX7_23 (Nat.le_of_ble_eq_true rfl) zc_H0 rfl rfl ?_
  refine zm_getf (v := .int (w.1 11 3)) (j := 3) dX7_wipe_4 clX2 flX7_119 (Nat.le_of_ble_eq_true rfl) zc_H11 rfl rfl ?_
  refine zm_istore_n dX7_wipe_7 rfl (Nat.le_of_ble_eq_true rfl) (ls' := [(1, .int (w.1 11 3)), (0, .ref 0)]) rfl ?_
  refine zm_aload_n (x := 0) 1 dX7_wipe_8 rfl rfl ?_
  refine zm_getf (v := .ref 11) (j := 2) dX7_wipe_9 clX7 flX7_23 (Nat.le_of_ble_eq_true rfl) zc_H0 rfl rfl ?_
  refine zm_callVv (as := []) (rest := []) dX7_wipe_12 rfl mtX2_clear lkX7_126 zc_H11 (C := RX2) rfl rfl rfl (Nat.le_of_ble_eq_true rfl) hC rfl (fun u hq => ?_)
  refine zm_sub [1, 0] rfl ?_
  exact k u hq
theorem gX7_wipe_15 {d : Nat} {Q : Value → zm_S → Prop} {w : zm_S} {a1 : Int32} (k : Q (.int a1) (zm_pi w 23 4 (0 : Int32))) : zm_T zc_H d mX7_wipe Q 15 [(0, .ref 0), (1, .int a1)] [] w := by
  refine zm_aload_n (x := 0) 0 dX7_wipe_15 rfl rfl ?_
  refine zm_getf (v := .ref 23) (j := 4) dX7_wipe_16 clX7 flX7_37 (Nat.le_of_ble_eq_true rfl) zc_H0 rfl rfl ?_
  refine zm_iconst dX7_wipe_19 (v := (0 : Int32)) (by decide) ?_
  refine zm_putf (j := 4) (ty := .boolean) dX7_wipe_20 clX6 flX7_80 (Nat.le_of_ble_eq_true rfl) zc_H23 rfl rfl (by decide +kernel) rfl (by decide) ?_
  refine zm_iload_n (x := a1) 1 dX7_wipe_23 rfl rfl ?_
  exact zm_ireturn dX7_wipe_24 rfl k
theorem gX7_fault_0 {d : Nat} {Q : Value → zm_S → Prop} {w : zm_S} (k : Q (.int (w.1 11 5)) w) : zm_T zc_H d mX7_fault Q 0 [(0, .ref 0)] [] w := by
  refine zm_aload_n (x := 0) 0 dX7_fault_0 rfl rfl ?_
  refine zm_getf (v := .ref 11) (j := 2) dX7_fault_1 clX7 flX7_23 (Nat.le_of_ble_eq_true rfl) zc_H0 rfl rfl ?_
  refine zm_getf (v := .int (w.1 11 5)) (j := 5) dX7_fault_4 clX2 flX7_129 (Nat.le_of_ble_eq_true rfl) zc_H11 rfl rfl ?_
  exact zm_ireturn dX7_fault_7 rfl k
theorem gX7_needed_0 {d : Nat} {Q : Value → zm_S → Prop} {w : zm_S} {a1 : Int32} {a2 : Int32} {a3 : Int32} {Q' : Value → zm_S → Prop} (hC : zm_C zc_H d mX7_isQuestion [.ref 0, .int a1] w Q') (k : ∀ (r : Int32) (u : zm_S), Q' (.int r) u → zm_T zc_H (d + 1) mX7_needed Q 5 [(0, .ref 0), (1, .int a1), (2, .int a2), (3, .int a3)] [.int r] u) : zm_T zc_H (d + 1) mX7_needed Q 0 [(0, .ref 0), (1, .int a1), (2, .int a2), (3, .int a3)] [] w := by
  refine zm_aload_n (x := 0) 0 dX7_needed_0 rfl rfl ?_
  refine zm_iload_n (x := a1) 1 dX7_needed_1 rfl rfl ?_
  refine zm_callVz (as := [.int a1]) (rest := []) dX7_needed_2 rfl mtX7_isQuestion lkX7_132 zc_H0 (C := RX7) rfl rfl rfl (Nat.le_of_ble_eq_true rfl) hC rfl (fun r u hq => ?_)
  exact k r u hq
theorem gX7_needed_5 {d : Nat} {Q : Value → zm_S → Prop} {w : zm_S} {a1 : Int32} {a2 : Int32} {a3 : Int32} {s0 : Int32} (kt : s0 = 0 → zm_T zc_H d mX7_needed Q 29 [] [] w) (kf : ¬ s0 = 0 → zm_T zc_H d mX7_needed Q 8 [(0, .ref 0), (1, .int a1), (2, .int a2), (3, .int a3)] [] w) : zm_T zc_H d mX7_needed Q 5 [(0, .ref 0), (1, .int a1), (2, .int a2), (3, .int a3)] [.int s0] w := by
  refine zm_if_eq 29 dX7_needed_5 (by decide) (fun h => ?_) (fun h => ?_)
  · refine zm_sub [] rfl ?_
    exact kt h
  · exact kf h
theorem gX7_needed_8 {d : Nat} {Q : Value → zm_S → Prop} {w : zm_S} {a1 : Int32} {a2 : Int32} {a3 : Int32} {Q' : Value → zm_S → Prop} (hC : zm_C zc_H d mX7_isQuestion [.ref 0, .int a2] w Q') (k : ∀ (r : Int32) (u : zm_S), Q' (.int r) u → zm_T zc_H (d + 1) mX7_needed Q 13 [(0, .ref 0), (1, .int a1), (2, .int a2), (3, .int a3)] [.int r] u) : zm_T zc_H (d + 1) mX7_needed Q 8 [(0, .ref 0), (1, .int a1), (2, .int a2), (3, .int a3)] [] w := by
  refine zm_aload_n (x := 0) 0 dX7_needed_8 rfl rfl ?_
  refine zm_iload_n (x := a2) 2 dX7_needed_9 rfl rfl ?_
  refine zm_callVz (as := [.int a2]) (rest := []) dX7_needed_10 rfl mtX7_isQuestion lkX7_132 zc_H0 (C := RX7) rfl rfl rfl (Nat.le_of_ble_eq_true rfl) hC rfl (fun r u hq => ?_)
  exact k r u hq
theorem gX7_needed_13 {d : Nat} {Q : Value → zm_S → Prop} {w : zm_S} {a1 : Int32} {a2 : Int32} {a3 : Int32} {s0 : Int32} (kt : s0 = 0 → zm_T zc_H d mX7_needed Q 29 [] [] w) (kf : ¬ s0 = 0 → zm_T zc_H d mX7_needed Q 16 [(0, .ref 0), (1, .int a1), (2, .int a2), (3, .int a3)] [] w) : zm_T zc_H d mX7_needed Q 13 [(0, .ref 0), (1, .int a1), (2, .int a2), (3, .int a3)] [.int s0] w := by
  refine zm_if_eq 29 dX7_needed_13 (by decide) (fun h => ?_) (fun h => ?_)
  · refine zm_sub [] rfl ?_
    exact kt h
  · exact kf h
theorem gX7_needed_16 {d : Nat} {Q : Value → zm_S → Prop} {w : zm_S} {a1 : Int32} {a2 : Int32} {a3 : Int32} (kt : a1 = a2 → zm_T zc_H d mX7_needed Q 29 [] [] w) (kf : ¬ a1 = a2 → zm_T zc_H d mX7_needed Q 21 [(0, .ref 0), (1, .int a1), (2, .int a2), (3, .int a3)] [] w) : zm_T zc_H d mX7_needed Q 16 [(0, .ref 0), (1, .int a1), (2, .int a2), (3, .int a3)] [] w := by
  refine zm_iload_n (x := a1) 1 dX7_needed_16 rfl rfl ?_
  refine zm_iload_n (x := a2) 2 dX7_needed_17 rfl rfl ?_
  refine zm_icmp_eq 29 dX7_needed_18 (by decide) (fun h => ?_) (fun h => ?_)
  · refine zm_sub [] rfl ?_
    exact kt h
  · exact kf h
theorem gX7_needed_21 {d : Nat} {Q : Value → zm_S → Prop} {w : zm_S} {a1 : Int32} {a2 : Int32} {a3 : Int32} {Q' : Value → zm_S → Prop} (hC : zm_C zc_H d mX7_within [.int a3, .int (2 : Int32)] w Q') (k : ∀ (r : Int32) (u : zm_S), Q' (.int r) u → zm_T zc_H (d + 1) mX7_needed Q 26 [(0, .ref 0), (1, .int a1), (2, .int a2), (3, .int a3)] [.int r] u) : zm_T zc_H (d + 1) mX7_needed Q 21 [(0, .ref 0), (1, .int a1), (2, .int a2), (3, .int a3)] [] w := by
  refine zm_iload_n (x := a3) 3 dX7_needed_21 rfl rfl ?_
  refine zm_iconst dX7_needed_22 (v := (2 : Int32)) (by decide) ?_
  refine zm_callSz (as := [.int a3, .int (2 : Int32)]) (rest := []) dX7_needed_23 rfl mtX7_within lkX7_62 rfl (Nat.le_of_ble_eq_true rfl) hC rfl (fun r u hq => ?_)
  exact k r u hq
theorem gX7_needed_26 {d : Nat} {Q : Value → zm_S → Prop} {w : zm_S} {a1 : Int32} {a2 : Int32} {a3 : Int32} {s0 : Int32} (kt : ¬ s0 = 0 → zm_T zc_H d mX7_needed Q 32 [(0, .ref 0), (1, .int a1), (2, .int a2), (3, .int a3)] [] w) (kf : s0 = 0 → zm_T zc_H d mX7_needed Q 29 [] [] w) : zm_T zc_H d mX7_needed Q 26 [(0, .ref 0), (1, .int a1), (2, .int a2), (3, .int a3)] [.int s0] w := by
  refine zm_if_ne 32 dX7_needed_26 (by decide) (fun h => ?_) (fun h => ?_)
  · exact kt h
  · refine zm_sub [] rfl ?_
    exact kf h
theorem gX7_needed_29 {d : Nat} {Q : Value → zm_S → Prop} {w : zm_S} (k : Q (.int (-2 : Int32)) w) : zm_T zc_H d mX7_needed Q 29 [] [] w := by
  refine zm_bipush dX7_needed_29 (v := (-2 : Int32)) (by decide) ?_
  exact zm_ireturn dX7_needed_31 rfl k
theorem gX7_needed_32 {d : Nat} {Q : Value → zm_S → Prop} {w : zm_S} {a1 : Int32} {a2 : Int32} {a3 : Int32} {Q' : Value → zm_S → Prop} (hC : zm_C zc_H d mX7_needsOf [.ref 0, .int a2, .int a3] w Q') (k : ∀ (r : Int32) (u : zm_S), Q' (.int r) u → zm_T zc_H (d + 1) mX7_needed Q 38 [(1, .int a1)] [.int r] u) : zm_T zc_H (d + 1) mX7_needed Q 32 [(0, .ref 0), (1, .int a1), (2, .int a2), (3, .int a3)] [] w := by
  refine zm_aload_n (x := 0) 0 dX7_needed_32 rfl rfl ?_
  refine zm_iload_n (x := a2) 2 dX7_needed_33 rfl rfl ?_
  refine zm_iload_n (x := a3) 3 dX7_needed_34 rfl rfl ?_
  refine zm_callVi (as := [.int a2, .int a3]) (rest := []) dX7_needed_35 rfl mtX7_needsOf lkX7_135 zc_H0 (C := RX7) rfl rfl rfl (Nat.le_of_ble_eq_true rfl) hC rfl (fun r u hq => ?_)
  refine zm_sub [1] rfl ?_
  exact k r u hq
theorem gX7_needed_38 {d : Nat} {Q : Value → zm_S → Prop} {w : zm_S} {a1 : Int32} {s0 : Int32} (kt : (s0 &&& ((1 : Int32) <<< (a1 &&& 31))) = 0 → zm_T zc_H d mX7_needed Q 49 [] [] w) (kf : ¬ (s0 &&& ((1 : Int32) <<< (a1 &&& 31))) = 0 → zm_T zc_H d mX7_needed Q 45 [] [] w) : zm_T zc_H d mX7_needed Q 38 [(1, .int a1)] [.int s0] w := by
  refine zm_iconst dX7_needed_38 (v := (1 : Int32)) (by decide) ?_
  refine zm_iload_n (x := a1) 0 dX7_needed_39 rfl rfl ?_
  refine zm_ishl dX7_needed_40 ?_
  refine zm_iand dX7_needed_41 ?_
  refine zm_if_eq 49 dX7_needed_42 (by decide) (fun h => ?_) (fun h => ?_)
  · refine zm_sub [] rfl ?_
    exact kt h
  · refine zm_sub [] rfl ?_
    exact kf h
theorem gX7_needed_45 {d : Nat} {Q : Value → zm_S → Prop} {w : zm_S} (k : Q (.int (1 : Int32)) w) : zm_T zc_H d mX7_needed Q 45 [] [] w := by
  refine zm_iconst dX7_needed_45 (v := (1 : Int32)) (by decide) ?_
  refine zm_goto 50 dX7_needed_46 (by decide) ?_
  exact zm_ireturn dX7_needed_50 rfl k
theorem gX7_needed_49 {d : Nat} {Q : Value → zm_S → Prop} {w : zm_S} (k : Q (.int (0 : Int32)) w) : zm_T zc_H d mX7_needed Q 49 [] [] w := by
  refine zm_iconst dX7_needed_49 (v := (0 : Int32)) (by decide) ?_
  exact zm_ireturn dX7_needed_50 rfl k
theorem gX7_errors_0 {d : Nat} {Q : Value → zm_S → Prop} {w : zm_S} {a1 : Int32} {a2 : Int32} {Q' : Value → zm_S → Prop} (hC : zm_C zc_H d mX7_within [.int a1, .int (12 : Int32)] w Q') (k : ∀ (r : Int32) (u : zm_S), Q' (.int r) u → zm_T zc_H (d + 1) mX7_errors Q 6 [(0, .ref 0), (1, .int a1), (2, .int a2)] [.int r] u) : zm_T zc_H (d + 1) mX7_errors Q 0 [(0, .ref 0), (1, .int a1), (2, .int a2)] [] w := by
  refine zm_iload_n (x := a1) 1 dX7_errors_0 rfl rfl ?_
  refine zm_bipush dX7_errors_1 (v := (12 : Int32)) (by decide) ?_
  refine zm_callSz (as := [.int a1, .int (12 : Int32)]) (rest := []) dX7_errors_3 rfl mtX7_within lkX7_62 rfl (Nat.le_of_ble_eq_true rfl) hC rfl (fun r u hq => ?_)
  exact k r u hq
theorem gX7_errors_6 {d : Nat} {Q : Value → zm_S → Prop} {w : zm_S} {a1 : Int32} {a2 : Int32} {s0 : Int32} (kt : s0 = 0 → zm_T zc_H d mX7_errors Q 19 [] [] w) (kf : ¬ s0 = 0 → zm_T zc_H d mX7_errors Q 9 [(0, .ref 0), (1, .int a1), (2, .int a2)] [] w) : zm_T zc_H d mX7_errors Q 6 [(0, .ref 0), (1, .int a1), (2, .int a2)] [.int s0] w := by
  refine zm_if_eq 19 dX7_errors_6 (by decide) (fun h => ?_) (fun h => ?_)
  · refine zm_sub [] rfl ?_
    exact kt h
  · exact kf h
theorem gX7_errors_9 {d : Nat} {Q : Value → zm_S → Prop} {w : zm_S} {a1 : Int32} {a2 : Int32} {Q' : Value → zm_S → Prop} (hC : zm_C zc_H d mX7_within [.int a2, .int (128 : Int32)] w Q') (k : ∀ (r : Int32) (u : zm_S), Q' (.int r) u → zm_T zc_H (d + 1) mX7_errors Q 16 [(0, .ref 0), (1, .int a1), (2, .int a2)] [.int r] u) : zm_T zc_H (d + 1) mX7_errors Q 9 [(0, .ref 0), (1, .int a1), (2, .int a2)] [] w := by
  refine zm_iload_n (x := a2) 2 dX7_errors_9 rfl rfl ?_
  refine zm_sipush dX7_errors_10 (v := (128 : Int32)) (by decide) ?_
  refine zm_callSz (as := [.int a2, .int (128 : Int32)]) (rest := []) dX7_errors_13 rfl mtX7_within lkX7_62 rfl (Nat.le_of_ble_eq_true rfl) hC rfl (fun r u hq => ?_)
  exact k r u hq
theorem gX7_errors_16 {d : Nat} {Q : Value → zm_S → Prop} {w : zm_S} {a1 : Int32} {a2 : Int32} {s0 : Int32} (kt : ¬ s0 = 0 → zm_T zc_H d mX7_errors Q 22 [(0, .ref 0), (1, .int a1), (2, .int a2)] [] w) (kf : s0 = 0 → zm_T zc_H d mX7_errors Q 19 [] [] w) : zm_T zc_H d mX7_errors Q 16 [(0, .ref 0), (1, .int a1), (2, .int a2)] [.int s0] w := by
  refine zm_if_ne 22 dX7_errors_16 (by decide) (fun h => ?_) (fun h => ?_)
  · exact kt h
  · refine zm_sub [] rfl ?_
    exact kf h
theorem gX7_errors_19 {d : Nat} {Q : Value → zm_S → Prop} {w : zm_S} (k : Q (.int (-2 : Int32)) w) : zm_T zc_H d mX7_errors Q 19 [] [] w := by
  refine zm_bipush dX7_errors_19 (v := (-2 : Int32)) (by decide) ?_
  exact zm_ireturn dX7_errors_21 rfl k
theorem gX7_errors_22 {d : Nat} {Q : Value → zm_S → Prop} {w : zm_S} {a1 : Int32} {a2 : Int32} {Q' : Value → zm_S → Prop} (hC : zm_C zc_H d mX0_errorsWith [.ref 2, .int a1, .int a2] w Q') (k : ∀ (r : Int32) (u : zm_S), Q' (.int r) u → zm_T zc_H (d + 1) mX7_errors Q 31 [] [.int r] u) : zm_T zc_H (d + 1) mX7_errors Q 22 [(0, .ref 0), (1, .int a1), (2, .int a2)] [] w := by
  refine zm_aload_n (x := 0) 0 dX7_errors_22 rfl rfl ?_
  refine zm_getf (v := .ref 2) (j := 1) dX7_errors_23 clX7 flX7_16 (Nat.le_of_ble_eq_true rfl) zc_H0 rfl rfl ?_
  refine zm_iload_n (x := a1) 1 dX7_errors_26 rfl rfl ?_
  refine zm_iload_n (x := a2) 2 dX7_errors_27 rfl rfl ?_
  refine zm_callVi (as := [.int a1, .int a2]) (rest := []) dX7_errors_28 rfl mtX0_errorsWith lkX7_138 zc_H2 (C := RX0) rfl rfl rfl (Nat.le_of_ble_eq_true rfl) hC rfl (fun r u hq => ?_)
  refine zm_sub [] rfl ?_
  exact k r u hq
theorem gX7_errors_31 {d : Nat} {Q : Value → zm_S → Prop} {w : zm_S} {s0 : Int32} (k : Q (.int s0) w) : zm_T zc_H d mX7_errors Q 31 [] [.int s0] w := by
  exact zm_ireturn dX7_errors_31 rfl k
theorem gX7_off_0 {d : Nat} {Q : Value → zm_S → Prop} {w : zm_S} {a1 : Int32} {Q' : Value → zm_S → Prop} (hC : zm_C zc_H d mX7_within [.int a1, .int (2 : Int32)] w Q') (k : ∀ (r : Int32) (u : zm_S), Q' (.int r) u → zm_T zc_H (d + 1) mX7_off Q 5 [(0, .ref 0), (1, .int a1)] [.int r] u) : zm_T zc_H (d + 1) mX7_off Q 0 [(0, .ref 0), (1, .int a1)] [] w := by
  refine zm_iload_n (x := a1) 1 dX7_off_0 rfl rfl ?_
  refine zm_iconst dX7_off_1 (v := (2 : Int32)) (by decide) ?_
  refine zm_callSz (as := [.int a1, .int (2 : Int32)]) (rest := []) dX7_off_2 rfl mtX7_within lkX7_62 rfl (Nat.le_of_ble_eq_true rfl) hC rfl (fun r u hq => ?_)
  exact k r u hq
theorem gX7_off_5 {d : Nat} {Q : Value → zm_S → Prop} {w : zm_S} {a1 : Int32} {s0 : Int32} (kt : ¬ s0 = 0 → zm_T zc_H d mX7_off Q 11 [(0, .ref 0), (1, .int a1)] [] w) (kf : s0 = 0 → zm_T zc_H d mX7_off Q 8 [] [] w) : zm_T zc_H d mX7_off Q 5 [(0, .ref 0), (1, .int a1)] [.int s0] w := by
  refine zm_if_ne 11 dX7_off_5 (by decide) (fun h => ?_) (fun h => ?_)
  · exact kt h
  · refine zm_sub [] rfl ?_
    exact kf h
theorem gX7_off_8 {d : Nat} {Q : Value → zm_S → Prop} {w : zm_S} (k : Q (.int (-2 : Int32)) w) : zm_T zc_H d mX7_off Q 8 [] [] w := by
  refine zm_bipush dX7_off_8 (v := (-2 : Int32)) (by decide) ?_
  exact zm_ireturn dX7_off_10 rfl k
theorem gX7_off_11 {d : Nat} {Q : Value → zm_S → Prop} {w : zm_S} {a1 : Int32} {Q' : Value → zm_S → Prop} (hC : zm_C zc_H d mX4_searchBest [.ref 15, .ref 2] w Q') (k : ∀ (u : zm_S), Q' .null u → zm_T zc_H (d + 1) mX7_off Q 22 [(0, .ref 0), (1, .int a1)] [] u) : zm_T zc_H (d + 1) mX7_off Q 11 [(0, .ref 0), (1, .int a1)] [] w := by
  refine zm_aload_n (x := 0) 0 dX7_off_11 rfl rfl ?_
  refine zm_getf (v := .ref 15) (j := 3) dX7_off_12 clX7 flX7_30 (Nat.le_of_ble_eq_true rfl) zc_H0 rfl rfl ?_
  refine zm_aload_n (x := 0) 0 dX7_off_15 rfl rfl ?_
  refine zm_getf (v := .ref 2) (j := 1) dX7_off_16 clX7 flX7_16 (Nat.le_of_ble_eq_true rfl) zc_H0 rfl rfl ?_
  refine zm_callVv (as := [.ref 2]) (rest := []) dX7_off_19 rfl mtX4_searchBest lkX7_141 zc_H15 (C := RX4) rfl rfl rfl (Nat.le_of_ble_eq_true rfl) hC rfl (fun u hq => ?_)
  exact k u hq
theorem gX7_off_22 {d : Nat} {Q : Value → zm_S → Prop} {w : zm_S} {a1 : Int32} (kt : ¬ a1 = 0 → zm_T zc_H d mX7_off Q 36 [(0, .ref 0)] [] w) (kf : a1 = 0 → zm_T zc_H d mX7_off Q 26 [(0, .ref 0)] [] w) : zm_T zc_H d mX7_off Q 22 [(0, .ref 0), (1, .int a1)] [] w := by
  refine zm_iload_n (x := a1) 1 dX7_off_22 rfl rfl ?_
  refine zm_if_ne 36 dX7_off_23 (by decide) (fun h => ?_) (fun h => ?_)
  · refine zm_sub [0] rfl ?_
    exact kt h
  · refine zm_sub [0] rfl ?_
    exact kf h
theorem gX7_off_26 {d : Nat} {Q : Value → zm_S → Prop} {w : zm_S} (k : Q (.int (w.1 15 14)) w) : zm_T zc_H d mX7_off Q 26 [(0, .ref 0)] [] w := by
  refine zm_aload_n (x := 0) 0 dX7_off_26 rfl rfl ?_
  refine zm_getf (v := .ref 15) (j := 3) dX7_off_27 clX7 flX7_30 (Nat.le_of_ble_eq_true rfl) zc_H0 rfl rfl ?_
  refine zm_getf (v := .int (w.1 15 14)) (j := 14) dX7_off_30 clX4 flX7_145 (Nat.le_of_ble_eq_true rfl) zc_H15 rfl rfl ?_
  refine zm_goto 43 dX7_off_33 (by decide) ?_
  exact zm_ireturn dX7_off_43 rfl k
theorem gX7_off_36 {d : Nat} {Q : Value → zm_S → Prop} {w : zm_S} (k : Q (.int (w.1 15 15)) w) : zm_T zc_H d mX7_off Q 36 [(0, .ref 0)] [] w := by
  refine zm_aload_n (x := 0) 0 dX7_off_36 rfl rfl ?_
  refine zm_getf (v := .ref 15) (j := 3) dX7_off_37 clX7 flX7_30 (Nat.le_of_ble_eq_true rfl) zc_H0 rfl rfl ?_
  refine zm_getf (v := .int (w.1 15 15)) (j := 15) dX7_off_40 clX4 flX7_148 (Nat.le_of_ble_eq_true rfl) zc_H15 rfl rfl ?_
  exact zm_ireturn dX7_off_43 rfl k
theorem gX7_row_0 {d : Nat} {Q : Value → zm_S → Prop} {w : zm_S} {a1 : Int32} {Q' : Value → zm_S → Prop} (hC : zm_C zc_H d mX7_isQuestion [.ref 0, .int a1] w Q') (k : ∀ (r : Int32) (u : zm_S), Q' (.int r) u → zm_T zc_H (d + 1) mX7_row Q 5 [(0, .ref 0), (1, .int a1)] [.int r] u) : zm_T zc_H (d + 1) mX7_row Q 0 [(0, .ref 0), (1, .int a1)] [] w := by
  refine zm_aload_n (x := 0) 0 dX7_row_0 rfl rfl ?_
  refine zm_iload_n (x := a1) 1 dX7_row_1 rfl rfl ?_
  refine zm_callVz (as := [.int a1]) (rest := []) dX7_row_2 rfl mtX7_isQuestion lkX7_132 zc_H0 (C := RX7) rfl rfl rfl (Nat.le_of_ble_eq_true rfl) hC rfl (fun r u hq => ?_)
  exact k r u hq
theorem gX7_row_5 {d : Nat} {Q : Value → zm_S → Prop} {w : zm_S} {a1 : Int32} {s0 : Int32} (kt : ¬ s0 = 0 → zm_T zc_H d mX7_row Q 11 [(0, .ref 0), (1, .int a1)] [] w) (kf : s0 = 0 → zm_T zc_H d mX7_row Q 8 [] [] w) : zm_T zc_H d mX7_row Q 5 [(0, .ref 0), (1, .int a1)] [.int s0] w := by
  refine zm_if_ne 11 dX7_row_5 (by decide) (fun h => ?_) (fun h => ?_)
  · exact kt h
  · refine zm_sub [] rfl ?_
    exact kf h
theorem gX7_row_8 {d : Nat} {Q : Value → zm_S → Prop} {w : zm_S} (k : Q (.int (-2 : Int32)) w) : zm_T zc_H d mX7_row Q 8 [] [] w := by
  refine zm_bipush dX7_row_8 (v := (-2 : Int32)) (by decide) ?_
  exact zm_ireturn dX7_row_10 rfl k
theorem gX7_row_11 {d : Nat} {Q : Value → zm_S → Prop} {w : zm_S} {a1 : Int32} {Q' : Value → zm_S → Prop} (hC : zm_C zc_H d mX4_searchBest [.ref 15, .ref 2] w Q') (k : ∀ (u : zm_S), Q' .null u → zm_T zc_H (d + 1) mX7_row Q 22 [(0, .ref 0), (1, .int a1)] [] u) : zm_T zc_H (d + 1) mX7_row Q 11 [(0, .ref 0), (1, .int a1)] [] w := by
  refine zm_aload_n (x := 0) 0 dX7_row_11 rfl rfl ?_
  refine zm_getf (v := .ref 15) (j := 3) dX7_row_12 clX7 flX7_30 (Nat.le_of_ble_eq_true rfl) zc_H0 rfl rfl ?_
  refine zm_aload_n (x := 0) 0 dX7_row_15 rfl rfl ?_
  refine zm_getf (v := .ref 2) (j := 1) dX7_row_16 clX7 flX7_16 (Nat.le_of_ble_eq_true rfl) zc_H0 rfl rfl ?_
  refine zm_callVv (as := [.ref 2]) (rest := []) dX7_row_19 rfl mtX4_searchBest lkX7_141 zc_H15 (C := RX4) rfl rfl rfl (Nat.le_of_ble_eq_true rfl) hC rfl (fun u hq => ?_)
  exact k u hq
theorem gX7_row_22 {d : Nat} {Q : Value → zm_S → Prop} {w : zm_S} {a1 : Int32} (hi30 : vp_in a1 7) (k : Q (.int (w.1 21 (a1).toNatClampNeg)) w) : zm_T zc_H d mX7_row Q 22 [(0, .ref 0), (1, .int a1)] [] w := by
  refine zm_aload_n (x := 0) 0 dX7_row_22 rfl rfl ?_
  refine zm_getf (v := .ref 15) (j := 3) dX7_row_23 clX7 flX7_30 (Nat.le_of_ble_eq_true rfl) zc_H0 rfl rfl ?_
  refine zm_getf (v := .ref 21) (j := 5) dX7_row_26 clX4 flX7_151 (Nat.le_of_ble_eq_true rfl) zc_H15 rfl rfl ?_
  refine zm_iload_n (x := a1) 1 dX7_row_29 rfl rfl ?_
  refine zm_iald dX7_row_30 zc_H21 hi30 ?_
  exact zm_ireturn dX7_row_31 rfl k
theorem gX7_step_0 {d : Nat} {Q : Value → zm_S → Prop} {w : zm_S} {a1 : Int32} {a2 : Int32} {Q' : Value → zm_S → Prop} (hC : zm_C zc_H d mX7_within [.int a1, .int (12 : Int32)] w Q') (k : ∀ (r : Int32) (u : zm_S), Q' (.int r) u → zm_T zc_H (d + 1) mX7_step Q 6 [(0, .ref 0), (1, .int a1), (2, .int a2)] [.int r] u) : zm_T zc_H (d + 1) mX7_step Q 0 [(0, .ref 0), (1, .int a1), (2, .int a2)] [] w := by
  refine zm_iload_n (x := a1) 1 dX7_step_0 rfl rfl ?_
  refine zm_bipush dX7_step_1 (v := (12 : Int32)) (by decide) ?_
  refine zm_callSz (as := [.int a1, .int (12 : Int32)]) (rest := []) dX7_step_3 rfl mtX7_within lkX7_62 rfl (Nat.le_of_ble_eq_true rfl) hC rfl (fun r u hq => ?_)
  exact k r u hq
theorem gX7_step_6 {d : Nat} {Q : Value → zm_S → Prop} {w : zm_S} {a1 : Int32} {a2 : Int32} {s0 : Int32} (kt : s0 = 0 → zm_T zc_H d mX7_step Q 17 [] [] w) (kf : ¬ s0 = 0 → zm_T zc_H d mX7_step Q 9 [(0, .ref 0), (1, .int a1), (2, .int a2)] [] w) : zm_T zc_H d mX7_step Q 6 [(0, .ref 0), (1, .int a1), (2, .int a2)] [.int s0] w := by
  refine zm_if_eq 17 dX7_step_6 (by decide) (fun h => ?_) (fun h => ?_)
  · refine zm_sub [] rfl ?_
    exact kt h
  · exact kf h
theorem gX7_step_9 {d : Nat} {Q : Value → zm_S → Prop} {w : zm_S} {a1 : Int32} {a2 : Int32} {Q' : Value → zm_S → Prop} (hC : zm_C zc_H d mX7_within [.int a2, .int (2 : Int32)] w Q') (k : ∀ (r : Int32) (u : zm_S), Q' (.int r) u → zm_T zc_H (d + 1) mX7_step Q 14 [(0, .ref 0), (1, .int a1), (2, .int a2)] [.int r] u) : zm_T zc_H (d + 1) mX7_step Q 9 [(0, .ref 0), (1, .int a1), (2, .int a2)] [] w := by
  refine zm_iload_n (x := a2) 2 dX7_step_9 rfl rfl ?_
  refine zm_iconst dX7_step_10 (v := (2 : Int32)) (by decide) ?_
  refine zm_callSz (as := [.int a2, .int (2 : Int32)]) (rest := []) dX7_step_11 rfl mtX7_within lkX7_62 rfl (Nat.le_of_ble_eq_true rfl) hC rfl (fun r u hq => ?_)
  exact k r u hq
theorem gX7_step_14 {d : Nat} {Q : Value → zm_S → Prop} {w : zm_S} {a1 : Int32} {a2 : Int32} {s0 : Int32} (kt : ¬ s0 = 0 → zm_T zc_H d mX7_step Q 20 [(0, .ref 0), (1, .int a1), (2, .int a2)] [] w) (kf : s0 = 0 → zm_T zc_H d mX7_step Q 17 [] [] w) : zm_T zc_H d mX7_step Q 14 [(0, .ref 0), (1, .int a1), (2, .int a2)] [.int s0] w := by
  refine zm_if_ne 20 dX7_step_14 (by decide) (fun h => ?_) (fun h => ?_)
  · exact kt h
  · refine zm_sub [] rfl ?_
    exact kf h
theorem gX7_step_17 {d : Nat} {Q : Value → zm_S → Prop} {w : zm_S} (k : Q (.int (-2 : Int32)) w) : zm_T zc_H d mX7_step Q 17 [] [] w := by
  refine zm_bipush dX7_step_17 (v := (-2 : Int32)) (by decide) ?_
  exact zm_ireturn dX7_step_19 rfl k
theorem gX7_step_20 {d : Nat} {Q : Value → zm_S → Prop} {w : zm_S} {a1 : Int32} {a2 : Int32} {Q' : Value → zm_S → Prop} (hC : zm_C zc_H d mX4_searchBest [.ref 15, .ref 2] w Q') (k : ∀ (u : zm_S), Q' .null u → zm_T zc_H (d + 1) mX7_step Q 31 [(0, .ref 0), (1, .int a1), (2, .int a2)] [] u) : zm_T zc_H (d + 1) mX7_step Q 20 [(0, .ref 0), (1, .int a1), (2, .int a2)] [] w := by
  refine zm_aload_n (x := 0) 0 dX7_step_20 rfl rfl ?_
  refine zm_getf (v := .ref 15) (j := 3) dX7_step_21 clX7 flX7_30 (Nat.le_of_ble_eq_true rfl) zc_H0 rfl rfl ?_
  refine zm_aload_n (x := 0) 0 dX7_step_24 rfl rfl ?_
  refine zm_getf (v := .ref 2) (j := 1) dX7_step_25 clX7 flX7_16 (Nat.le_of_ble_eq_true rfl) zc_H0 rfl rfl ?_
  refine zm_callVv (as := [.ref 2]) (rest := []) dX7_step_28 rfl mtX4_searchBest lkX7_141 zc_H15 (C := RX4) rfl rfl rfl (Nat.le_of_ble_eq_true rfl) hC rfl (fun u hq => ?_)
  exact k u hq
theorem gX7_step_31 {d : Nat} {Q : Value → zm_S → Prop} {w : zm_S} {a1 : Int32} {a2 : Int32} (kt : ¬ a2 = 0 → zm_T zc_H d mX7_step Q 53 [(0, .ref 0), (1, .int a1)] [] w) (kf : a2 = 0 → zm_T zc_H d mX7_step Q 35 [(0, .ref 0), (1, .int a1)] [] w) : zm_T zc_H d mX7_step Q 31 [(0, .ref 0), (1, .int a1), (2, .int a2)] [] w := by
  refine zm_iload_n (x := a2) 2 dX7_step_31 rfl rfl ?_
  refine zm_if_ne 53 dX7_step_32 (by decide) (fun h => ?_) (fun h => ?_)
  · refine zm_sub [0, 1] rfl ?_
    exact kt h
  · refine zm_sub [0, 1] rfl ?_
    exact kf h
theorem gX7_step_35 {d : Nat} {Q : Value → zm_S → Prop} {w : zm_S} {a1 : Int32} {Q' : Value → zm_S → Prop} (hC : zm_C zc_H d mX0_stepIn [.ref 2, .int a1, .ref 21] w Q') (k : ∀ (r : Int32) (u : zm_S), Q' (.int r) u → zm_T zc_H (d + 1) mX7_step Q 50 [] [.int r] u) : zm_T zc_H (d + 1) mX7_step Q 35 [(0, .ref 0), (1, .int a1)] [] w := by
  refine zm_aload_n (x := 0) 0 dX7_step_35 rfl rfl ?_
  refine zm_getf (v := .ref 2) (j := 1) dX7_step_36 clX7 flX7_16 (Nat.le_of_ble_eq_true rfl) zc_H0 rfl rfl ?_
  refine zm_iload_n (x := a1) 1 dX7_step_39 rfl rfl ?_
  refine zm_aload_n (x := 0) 0 dX7_step_40 rfl rfl ?_
  refine zm_getf (v := .ref 15) (j := 3) dX7_step_41 clX7 flX7_30 (Nat.le_of_ble_eq_true rfl) zc_H0 rfl rfl ?_
  refine zm_getf (v := .ref 21) (j := 5) dX7_step_44 clX4 flX7_151 (Nat.le_of_ble_eq_true rfl) zc_H15 rfl rfl ?_
  refine zm_callVi (as := [.int a1, .ref 21]) (rest := []) dX7_step_47 rfl mtX0_stepIn lkX7_154 zc_H2 (C := RX0) rfl rfl rfl (Nat.le_of_ble_eq_true rfl) hC rfl (fun r u hq => ?_)
  refine zm_sub [] rfl ?_
  exact k r u hq
theorem gX7_step_50 {d : Nat} {Q : Value → zm_S → Prop} {w : zm_S} {s0 : Int32} (k : zm_T zc_H d mX7_step Q 68 [] [.int s0] w) : zm_T zc_H d mX7_step Q 50 [] [.int s0] w := by
  refine zm_goto 68 dX7_step_50 (by decide) ?_
  exact k
theorem gX7_step_53 {d : Nat} {Q : Value → zm_S → Prop} {w : zm_S} {a1 : Int32} {Q' : Value → zm_S → Prop} (hC : zm_C zc_H d mX0_offIn [.ref 2, .int a1, .ref 21] w Q') (k : ∀ (r : Int32) (u : zm_S), Q' (.int r) u → zm_T zc_H (d + 1) mX7_step Q 68 [] [.int r] u) : zm_T zc_H (d + 1) mX7_step Q 53 [(0, .ref 0), (1, .int a1)] [] w := by
  refine zm_aload_n (x := 0) 0 dX7_step_53 rfl rfl ?_
  refine zm_getf (v := .ref 2) (j := 1) dX7_step_54 clX7 flX7_16 (Nat.le_of_ble_eq_true rfl) zc_H0 rfl rfl ?_
  refine zm_iload_n (x := a1) 1 dX7_step_57 rfl rfl ?_
  refine zm_aload_n (x := 0) 0 dX7_step_58 rfl rfl ?_
  refine zm_getf (v := .ref 15) (j := 3) dX7_step_59 clX7 flX7_30 (Nat.le_of_ble_eq_true rfl) zc_H0 rfl rfl ?_
  refine zm_getf (v := .ref 21) (j := 5) dX7_step_62 clX4 flX7_151 (Nat.le_of_ble_eq_true rfl) zc_H15 rfl rfl ?_
  refine zm_callVi (as := [.int a1, .ref 21]) (rest := []) dX7_step_65 rfl mtX0_offIn lkX7_158 zc_H2 (C := RX0) rfl rfl rfl (Nat.le_of_ble_eq_true rfl) hC rfl (fun r u hq => ?_)
  refine zm_sub [] rfl ?_
  exact k r u hq
theorem gX7_step_68 {d : Nat} {Q : Value → zm_S → Prop} {w : zm_S} {s0 : Int32} (k : Q (.int s0) w) : zm_T zc_H d mX7_step Q 68 [] [.int s0] w := by
  exact zm_ireturn dX7_step_68 rfl k
theorem gX7_offBy_0 {d : Nat} {Q : Value → zm_S → Prop} {w : zm_S} {a1 : Int32} {Q' : Value → zm_S → Prop} (hC : zm_C zc_H d mX7_within [.int a1, .int (4 : Int32)] w Q') (k : ∀ (r : Int32) (u : zm_S), Q' (.int r) u → zm_T zc_H (d + 1) mX7_offBy Q 5 [(0, .ref 0), (1, .int a1)] [.int r] u) : zm_T zc_H (d + 1) mX7_offBy Q 0 [(0, .ref 0), (1, .int a1)] [] w := by
  refine zm_iload_n (x := a1) 1 dX7_offBy_0 rfl rfl ?_
  refine zm_iconst dX7_offBy_1 (v := (4 : Int32)) (by decide) ?_
  refine zm_callSz (as := [.int a1, .int (4 : Int32)]) (rest := []) dX7_offBy_2 rfl mtX7_within lkX7_62 rfl (Nat.le_of_ble_eq_true rfl) hC rfl (fun r u hq => ?_)
  exact k r u hq
theorem gX7_offBy_5 {d : Nat} {Q : Value → zm_S → Prop} {w : zm_S} {a1 : Int32} {s0 : Int32} (kt : ¬ s0 = 0 → zm_T zc_H d mX7_offBy Q 11 [(0, .ref 0), (1, .int a1)] [] w) (kf : s0 = 0 → zm_T zc_H d mX7_offBy Q 8 [] [] w) : zm_T zc_H d mX7_offBy Q 5 [(0, .ref 0), (1, .int a1)] [.int s0] w := by
  refine zm_if_ne 11 dX7_offBy_5 (by decide) (fun h => ?_) (fun h => ?_)
  · exact kt h
  · refine zm_sub [] rfl ?_
    exact kf h
theorem gX7_offBy_8 {d : Nat} {Q : Value → zm_S → Prop} {w : zm_S} (k : Q (.int (-2 : Int32)) w) : zm_T zc_H d mX7_offBy Q 8 [] [] w := by
  refine zm_bipush dX7_offBy_8 (v := (-2 : Int32)) (by decide) ?_
  exact zm_ireturn dX7_offBy_10 rfl k
theorem gX7_offBy_11 {d : Nat} {Q : Value → zm_S → Prop} {w : zm_S} {a1 : Int32} {q16 : Nat} (hi16 : vp_in a1 4) (hq16 : ([40, 42, 44, 46] : List Nat)[(a1).toNatClampNeg]? = some q16) (kt : (w.1 q16 1) = 0 → zm_T zc_H d mX7_offBy Q 31 [(0, .ref 0), (2, .ref q16)] [] w) (kf : ¬ (w.1 q16 1) = 0 → zm_T zc_H d mX7_offBy Q 25 [(0, .ref 0)] [] w) : zm_T zc_H d mX7_offBy Q 11 [(0, .ref 0), (1, .int a1)] [] w := by
  refine zm_aload_n (x := 0) 0 dX7_offBy_11 rfl rfl ?_
  refine zm_getf (v := .ref 39) (j := 7) dX7_offBy_12 clX7 flX7_57 (Nat.le_of_ble_eq_true rfl) zc_H0 rfl rfl ?_
  refine zm_iload_n (x := a1) 1 dX7_offBy_15 rfl rfl ?_
  refine zm_aald dX7_offBy_16 zc_H39 hi16 hq16 ?_
  refine zm_astore_n dX7_offBy_17 rfl (Nat.le_of_ble_eq_true rfl) (ls' := [(2, .ref q16), (0, .ref 0), (1, .int a1)]) rfl ?_
  refine zm_aload_n (x := q16) 0 dX7_offBy_18 rfl rfl ?_
  refine zm_getf (v := .int (w.1 q16 1)) (j := 1) dX7_offBy_19 clX5 flX7_97 (Nat.le_of_ble_eq_true rfl) (zc_sh_of hq16).1 rfl rfl ?_
  refine zm_if_eq 31 dX7_offBy_22 (by decide) (fun h => ?_) (fun h => ?_)
  · refine zm_sub [1, 0] rfl ?_
    exact kt h
  · refine zm_sub [1] rfl ?_
    exact kf h
theorem gX7_offBy_25 {d : Nat} {Q : Value → zm_S → Prop} {w : zm_S} {Q' : Value → zm_S → Prop} (hC : zm_C zc_H d mX7_tellFinding [.ref 0, .int (1 : Int32)] w Q') (k : ∀ (r : Int32) (u : zm_S), Q' (.int r) u → zm_T zc_H (d + 1) mX7_offBy Q 30 [] [.int r] u) : zm_T zc_H (d + 1) mX7_offBy Q 25 [(0, .ref 0)] [] w := by
  refine zm_aload_n (x := 0) 0 dX7_offBy_25 rfl rfl ?_
  refine zm_iconst dX7_offBy_26 (v := (1 : Int32)) (by decide) ?_
  refine zm_callVi (as := [.int (1 : Int32)]) (rest := []) dX7_offBy_27 rfl mtX7_tellFinding lkX7_100 zc_H0 (C := RX7) rfl rfl rfl (Nat.le_of_ble_eq_true rfl) hC rfl (fun r u hq => ?_)
  refine zm_sub [] rfl ?_
  exact k r u hq
theorem gX7_offBy_30 {d : Nat} {Q : Value → zm_S → Prop} {w : zm_S} {s0 : Int32} (k : Q (.int s0) w) : zm_T zc_H d mX7_offBy Q 30 [] [.int s0] w := by
  exact zm_ireturn dX7_offBy_30 rfl k
theorem gX7_offBy_31 {d : Nat} {Q : Value → zm_S → Prop} {w : zm_S} {oa2 : Nat} {Q' : Value → zm_S → Prop} (hoa2 : zc_sh oa2) (hC : zm_C zc_H d mX7_isRow [.ref 0, .ref oa2] w Q') (k : ∀ (r : Int32) (u : zm_S), Q' (.int r) u → zm_T zc_H (d + 1) mX7_offBy Q 36 [(0, .ref 0), (2, .ref oa2)] [.int r] u) : zm_T zc_H (d + 1) mX7_offBy Q 31 [(0, .ref 0), (2, .ref oa2)] [] w := by
  refine zm_aload_n (x := 0) 0 dX7_offBy_31 rfl rfl ?_
  refine zm_aload_n (x := oa2) 1 dX7_offBy_32 rfl rfl ?_
  refine zm_callVz (as := [.ref oa2]) (rest := []) dX7_offBy_33 rfl mtX7_isRow lkX7_161 zc_H0 (C := RX7) rfl rfl rfl (Nat.le_of_ble_eq_true rfl) hC rfl (fun r u hq => ?_)
  exact k r u hq
theorem gX7_offBy_36 {d : Nat} {Q : Value → zm_S → Prop} {w : zm_S} {oa2 : Nat} {s0 : Int32} (hoa2 : zc_sh oa2) (kt : ¬ s0 = 0 → zm_T zc_H d mX7_offBy Q 42 [(0, .ref 0), (2, .ref oa2)] [] w) (kf : s0 = 0 → zm_T zc_H d mX7_offBy Q 39 [] [] w) : zm_T zc_H d mX7_offBy Q 36 [(0, .ref 0), (2, .ref oa2)] [.int s0] w := by
  refine zm_if_ne 42 dX7_offBy_36 (by decide) (fun h => ?_) (fun h => ?_)
  · exact kt h
  · refine zm_sub [] rfl ?_
    exact kf h
theorem gX7_offBy_39 {d : Nat} {Q : Value → zm_S → Prop} {w : zm_S} (k : Q (.int (-3 : Int32)) w) : zm_T zc_H d mX7_offBy Q 39 [] [] w := by
  refine zm_bipush dX7_offBy_39 (v := (-3 : Int32)) (by decide) ?_
  exact zm_ireturn dX7_offBy_41 rfl k
theorem gX7_offBy_42 {d : Nat} {Q : Value → zm_S → Prop} {w : zm_S} {oa2 : Nat} (hoa2 : zc_sh oa2) (k : zm_T zc_H d mX7_offBy Q 47 [(0, .ref 0), (2, .ref oa2), (3, .int (0 : Int32)), (4, .int (0 : Int32))] [] w) : zm_T zc_H d mX7_offBy Q 42 [(0, .ref 0), (2, .ref oa2)] [] w := by
  refine zm_iconst dX7_offBy_42 (v := (0 : Int32)) (by decide) ?_
  refine zm_istore_n dX7_offBy_43 rfl (Nat.le_of_ble_eq_true rfl) (ls' := [(3, .int (0 : Int32)), (0, .ref 0), (2, .ref oa2)]) rfl ?_
  refine zm_iconst dX7_offBy_44 (v := (0 : Int32)) (by decide) ?_
  refine zm_istore dX7_offBy_45 (Nat.le_of_ble_eq_true rfl) (ls' := [(4, .int (0 : Int32)), (3, .int (0 : Int32)), (0, .ref 0), (2, .ref oa2)]) rfl ?_
  refine zm_sub [2, 3, 1, 0] rfl ?_
  exact k
theorem gX7_offBy_47 {d : Nat} {Q : Value → zm_S → Prop} {w : zm_S} {oa2 : Nat} {a3 : Int32} {a4 : Int32} (hoa2 : zc_sh oa2) (kt : (12 : Int32) ≤ a4 → zm_T zc_H d mX7_offBy Q 76 [(3, .int a3)] [] w) (kf : ¬ (12 : Int32) ≤ a4 → zm_T zc_H d mX7_offBy Q 54 [(0, .ref 0), (2, .ref oa2), (3, .int a3), (4, .int a4)] [] w) : zm_T zc_H d mX7_offBy Q 47 [(0, .ref 0), (2, .ref oa2), (3, .int a3), (4, .int a4)] [] w := by
  refine zm_iload (x := a4) 3 dX7_offBy_47 rfl ?_
  refine zm_bipush dX7_offBy_49 (v := (12 : Int32)) (by decide) ?_
  refine zm_icmp_ge 76 dX7_offBy_51 (by decide) (fun h => ?_) (fun h => ?_)
  · refine zm_sub [2] rfl ?_
    exact kt h
  · exact kf h
theorem gX7_offBy_54 {d : Nat} {Q : Value → zm_S → Prop} {w : zm_S} {oa2 : Nat} {a3 : Int32} {a4 : Int32} {Q' : Value → zm_S → Prop} (hoa2 : zc_sh oa2) (hC : zm_C zc_H d mX0_offIn [.ref 2, .int a4, .ref (oa2 + 1)] w Q') (k : ∀ (r : Int32) (u : zm_S), Q' (.int r) u → zm_T zc_H (d + 1) mX7_offBy Q 68 [(0, .ref 0), (2, .ref oa2), (4, .int a4)] [.int r, .int a3] u) : zm_T zc_H (d + 1) mX7_offBy Q 54 [(0, .ref 0), (2, .ref oa2), (3, .int a3), (4, .int a4)] [] w := by
  refine zm_iload_n (x := a3) 2 dX7_offBy_54 rfl rfl ?_
  refine zm_aload_n (x := 0) 0 dX7_offBy_55 rfl rfl ?_
  refine zm_getf (v := .ref 2) (j := 1) dX7_offBy_56 clX7 flX7_16 (Nat.le_of_ble_eq_true rfl) zc_H0 rfl rfl ?_
  refine zm_iload (x := a4) 3 dX7_offBy_59 rfl ?_
  refine zm_aload_n (x := oa2) 1 dX7_offBy_61 rfl rfl ?_
  refine zm_getf (v := .ref (oa2 + 1)) (j := 0) dX7_offBy_62 clX5 flX7_113 (Nat.le_of_ble_eq_true rfl) hoa2.1 rfl rfl ?_
  refine zm_callVi (as := [.int a4, .ref (oa2 + 1)]) (rest := [.int a3]) dX7_offBy_65 rfl mtX0_offIn lkX7_158 zc_H2 (C := RX0) rfl rfl rfl (Nat.le_of_ble_eq_true rfl) hC rfl (fun r u hq => ?_)
  refine zm_sub [0, 1, 3] rfl ?_
  exact k r u hq
theorem gX7_offBy_68 {d : Nat} {Q : Value → zm_S → Prop} {w : zm_S} {oa2 : Nat} {a4 : Int32} {s0 : Int32} {s1 : Int32} (hoa2 : zc_sh oa2) (k : zm_T zc_H d mX7_offBy Q 47 [(0, .ref 0), (2, .ref oa2), (3, .int (s1 + s0)), (4, .int (a4 + (1 : Int32)))] [] w) : zm_T zc_H d mX7_offBy Q 68 [(0, .ref 0), (2, .ref oa2), (4, .int a4)] [.int s0, .int s1] w := by
  refine zm_iadd dX7_offBy_68 ?_
  refine zm_istore_n dX7_offBy_69 rfl (Nat.le_of_ble_eq_true rfl) (ls' := [(3, .int (s1 + s0)), (0, .ref 0), (2, .ref oa2), (4, .int a4)]) rfl ?_
  refine zm_iinc 3 dX7_offBy_70 (x := a4) (v := (a4 + (1 : Int32))) rfl rfl (Nat.le_of_ble_eq_true rfl) (ls' := [(4, .int (a4 + (1 : Int32))), (3, .int (s1 + s0)), (0, .ref 0), (2, .ref oa2)]) rfl ?_
  refine zm_goto 47 dX7_offBy_73 (by decide) ?_
  refine zm_sub [2, 3, 1, 0] rfl ?_
  exact k
theorem gX7_offBy_76 {d : Nat} {Q : Value → zm_S → Prop} {w : zm_S} {a3 : Int32} (k : Q (.int a3) w) : zm_T zc_H d mX7_offBy Q 76 [(3, .int a3)] [] w := by
  refine zm_iload_n (x := a3) 0 dX7_offBy_76 rfl rfl ?_
  exact zm_ireturn dX7_offBy_77 rfl k
theorem gX7_fit_0 {d : Nat} {Q : Value → zm_S → Prop} {w : zm_S} {a1 : Int32} {a2 : Int32} {Q' : Value → zm_S → Prop} (hC : zm_C zc_H d mX7_within [.int a1, .int (2 : Int32)] w Q') (k : ∀ (r : Int32) (u : zm_S), Q' (.int r) u → zm_T zc_H (d + 1) mX7_fit Q 5 [(0, .ref 0), (1, .int a1), (2, .int a2)] [.int r] u) : zm_T zc_H (d + 1) mX7_fit Q 0 [(0, .ref 0), (1, .int a1), (2, .int a2)] [] w := by
  refine zm_iload_n (x := a1) 1 dX7_fit_0 rfl rfl ?_
  refine zm_iconst dX7_fit_1 (v := (2 : Int32)) (by decide) ?_
  refine zm_callSz (as := [.int a1, .int (2 : Int32)]) (rest := []) dX7_fit_2 rfl mtX7_within lkX7_62 rfl (Nat.le_of_ble_eq_true rfl) hC rfl (fun r u hq => ?_)
  exact k r u hq
theorem gX7_fit_5 {d : Nat} {Q : Value → zm_S → Prop} {w : zm_S} {a1 : Int32} {a2 : Int32} {s0 : Int32} (kt : s0 = 0 → zm_T zc_H d mX7_fit Q 16 [] [] w) (kf : ¬ s0 = 0 → zm_T zc_H d mX7_fit Q 8 [(0, .ref 0), (1, .int a1), (2, .int a2)] [] w) : zm_T zc_H d mX7_fit Q 5 [(0, .ref 0), (1, .int a1), (2, .int a2)] [.int s0] w := by
  refine zm_if_eq 16 dX7_fit_5 (by decide) (fun h => ?_) (fun h => ?_)
  · refine zm_sub [] rfl ?_
    exact kt h
  · exact kf h
theorem gX7_fit_8 {d : Nat} {Q : Value → zm_S → Prop} {w : zm_S} {a1 : Int32} {a2 : Int32} {Q' : Value → zm_S → Prop} (hC : zm_C zc_H d mX7_within [.int a2, .int (2 : Int32)] w Q') (k : ∀ (r : Int32) (u : zm_S), Q' (.int r) u → zm_T zc_H (d + 1) mX7_fit Q 13 [(0, .ref 0), (1, .int a1), (2, .int a2)] [.int r] u) : zm_T zc_H (d + 1) mX7_fit Q 8 [(0, .ref 0), (1, .int a1), (2, .int a2)] [] w := by
  refine zm_iload_n (x := a2) 2 dX7_fit_8 rfl rfl ?_
  refine zm_iconst dX7_fit_9 (v := (2 : Int32)) (by decide) ?_
  refine zm_callSz (as := [.int a2, .int (2 : Int32)]) (rest := []) dX7_fit_10 rfl mtX7_within lkX7_62 rfl (Nat.le_of_ble_eq_true rfl) hC rfl (fun r u hq => ?_)
  exact k r u hq
theorem gX7_fit_13 {d : Nat} {Q : Value → zm_S → Prop} {w : zm_S} {a1 : Int32} {a2 : Int32} {s0 : Int32} (kt : ¬ s0 = 0 → zm_T zc_H d mX7_fit Q 22 [(0, .ref 0), (1, .int a1), (2, .int a2)] [] w) (kf : s0 = 0 → zm_T zc_H d mX7_fit Q 16 [] [] w) : zm_T zc_H d mX7_fit Q 13 [(0, .ref 0), (1, .int a1), (2, .int a2)] [.int s0] w := by
  refine zm_if_ne 22 dX7_fit_13 (by decide) (fun h => ?_) (fun h => ?_)
  · exact kt h
  · refine zm_sub [] rfl ?_
    exact kf h
theorem gX7_fit_16 {d : Nat} {Q : Value → zm_S → Prop} {w : zm_S} {Q' : Value → zm_S → Prop} (hC : zm_C zc_H d mX7_refusal [.int (-2 : Int32)] w Q') (k : ∀ (r : Int64) (u : zm_S), Q' (.long r) u → zm_T zc_H (d + 1) mX7_fit Q 21 [] [.long r] u) : zm_T zc_H (d + 1) mX7_fit Q 16 [] [] w := by
  refine zm_bipush dX7_fit_16 (v := (-2 : Int32)) (by decide) ?_
  refine zm_callSl (as := [.int (-2 : Int32)]) (rest := []) dX7_fit_18 rfl mtX7_refusal lkX7_165 rfl (Nat.le_of_ble_eq_true rfl) hC rfl (fun r u hq => ?_)
  exact k r u hq
theorem gX7_fit_21 {d : Nat} {Q : Value → zm_S → Prop} {w : zm_S} {s0 : Int64} (k : Q (.long s0) w) : zm_T zc_H d mX7_fit Q 21 [] [.long s0] w := by
  exact zm_lreturn dX7_fit_21 rfl k
theorem gX7_fit_22 {d : Nat} {Q : Value → zm_S → Prop} {w : zm_S} {a1 : Int32} {a2 : Int32} {Q' : Value → zm_S → Prop} (hC : zm_C zc_H d mX0_givenByAll [.ref 2] w Q') (k : ∀ (r : Int32) (u : zm_S), Q' (.int r) u → zm_T zc_H (d + 1) mX7_fit Q 29 [(0, .ref 0), (1, .int a1), (2, .int a2)] [.int r] u) : zm_T zc_H (d + 1) mX7_fit Q 22 [(0, .ref 0), (1, .int a1), (2, .int a2)] [] w := by
  refine zm_aload_n (x := 0) 0 dX7_fit_22 rfl rfl ?_
  refine zm_getf (v := .ref 2) (j := 1) dX7_fit_23 clX7 flX7_16 (Nat.le_of_ble_eq_true rfl) zc_H0 rfl rfl ?_
  refine zm_callVi (as := []) (rest := []) dX7_fit_26 rfl mtX0_givenByAll lkX7_169 zc_H2 (C := RX0) rfl rfl rfl (Nat.le_of_ble_eq_true rfl) hC rfl (fun r u hq => ?_)
  exact k r u hq
theorem gX7_fit_29 {d : Nat} {Q : Value → zm_S → Prop} {w : zm_S} {a1 : Int32} {a2 : Int32} {s0 : Int32} (kt : ¬ s0 = 0 → zm_T zc_H d mX7_fit Q 40 [(0, .ref 0), (1, .int a1), (2, .int a2), (3, .int s0)] [] w) (kf : s0 = 0 → zm_T zc_H d mX7_fit Q 34 [] [] w) : zm_T zc_H d mX7_fit Q 29 [(0, .ref 0), (1, .int a1), (2, .int a2)] [.int s0] w := by
  refine zm_istore_n dX7_fit_29 rfl (Nat.le_of_ble_eq_true rfl) (ls' := [(3, .int s0), (0, .ref 0), (1, .int a1), (2, .int a2)]) rfl ?_
  refine zm_iload_n (x := s0) 0 dX7_fit_30 rfl rfl ?_
  refine zm_if_ne 40 dX7_fit_31 (by decide) (fun h => ?_) (fun h => ?_)
  · refine zm_sub [1, 2, 3, 0] rfl ?_
    exact kt h
  · refine zm_sub [] rfl ?_
    exact kf h
theorem gX7_fit_34 {d : Nat} {Q : Value → zm_S → Prop} {w : zm_S} {Q' : Value → zm_S → Prop} (hC : zm_C zc_H d mX7_refusal [.int (-3 : Int32)] w Q') (k : ∀ (r : Int64) (u : zm_S), Q' (.long r) u → zm_T zc_H (d + 1) mX7_fit Q 39 [] [.long r] u) : zm_T zc_H (d + 1) mX7_fit Q 34 [] [] w := by
  refine zm_bipush dX7_fit_34 (v := (-3 : Int32)) (by decide) ?_
  refine zm_callSl (as := [.int (-3 : Int32)]) (rest := []) dX7_fit_36 rfl mtX7_refusal lkX7_165 rfl (Nat.le_of_ble_eq_true rfl) hC rfl (fun r u hq => ?_)
  exact k r u hq
theorem gX7_fit_39 {d : Nat} {Q : Value → zm_S → Prop} {w : zm_S} {s0 : Int64} (k : Q (.long s0) w) : zm_T zc_H d mX7_fit Q 39 [] [.long s0] w := by
  exact zm_lreturn dX7_fit_39 rfl k
theorem gX7_fit_40 {d : Nat} {Q : Value → zm_S → Prop} {w : zm_S} {a1 : Int32} {a2 : Int32} {a3 : Int32} {Q' : Value → zm_S → Prop} (hC : zm_C zc_H d mX4_searchBest [.ref 15, .ref 2] w Q') (k : ∀ (u : zm_S), Q' .null u → zm_T zc_H (d + 1) mX7_fit Q 51 [(0, .ref 0), (1, .int a1), (2, .int a2), (3, .int a3)] [] u) : zm_T zc_H (d + 1) mX7_fit Q 40 [(0, .ref 0), (1, .int a1), (2, .int a2), (3, .int a3)] [] w := by
  refine zm_aload_n (x := 0) 0 dX7_fit_40 rfl rfl ?_
  refine zm_getf (v := .ref 15) (j := 3) dX7_fit_41 clX7 flX7_30 (Nat.le_of_ble_eq_true rfl) zc_H0 rfl rfl ?_
  refine zm_aload_n (x := 0) 0 dX7_fit_44 rfl rfl ?_
  refine zm_getf (v := .ref 2) (j := 1) dX7_fit_45 clX7 flX7_16 (Nat.le_of_ble_eq_true rfl) zc_H0 rfl rfl ?_
  refine zm_callVv (as := [.ref 2]) (rest := []) dX7_fit_48 rfl mtX4_searchBest lkX7_141 zc_H15 (C := RX4) rfl rfl rfl (Nat.le_of_ble_eq_true rfl) hC rfl (fun u hq => ?_)
  exact k u hq
theorem gX7_fit_51 {d : Nat} {Q : Value → zm_S → Prop} {w : zm_S} {a1 : Int32} {a2 : Int32} {a3 : Int32} (kt : ¬ a1 = 0 → zm_T zc_H d mX7_fit Q 67 [(0, .ref 0), (2, .int a2), (3, .int a3)] [] w) (kf : a1 = 0 → zm_T zc_H d mX7_fit Q 55 [(0, .ref 0), (2, .int a2), (3, .int a3)] [] w) : zm_T zc_H d mX7_fit Q 51 [(0, .ref 0), (1, .int a1), (2, .int a2), (3, .int a3)] [] w := by
  refine zm_iload_n (x := a1) 1 dX7_fit_51 rfl rfl ?_
  refine zm_if_ne 67 dX7_fit_52 (by decide) (fun h => ?_) (fun h => ?_)
  · refine zm_sub [0, 2, 3] rfl ?_
    exact kt h
  · refine zm_sub [0, 2, 3] rfl ?_
    exact kf h
theorem gX7_fit_55 {d : Nat} {Q : Value → zm_S → Prop} {w : zm_S} {a2 : Int32} {a3 : Int32} (k : zm_T zc_H d mX7_fit Q 74 [(2, .int a2), (3, .int a3)] [.int (a3 - (w.1 15 14))] w) : zm_T zc_H d mX7_fit Q 55 [(0, .ref 0), (2, .int a2), (3, .int a3)] [] w := by
  refine zm_iload_n (x := a3) 2 dX7_fit_55 rfl rfl ?_
  refine zm_aload_n (x := 0) 0 dX7_fit_56 rfl rfl ?_
  refine zm_getf (v := .ref 15) (j := 3) dX7_fit_57 clX7 flX7_30 (Nat.le_of_ble_eq_true rfl) zc_H0 rfl rfl ?_
  refine zm_getf (v := .int (w.1 15 14)) (j := 14) dX7_fit_60 clX4 flX7_145 (Nat.le_of_ble_eq_true rfl) zc_H15 rfl rfl ?_
  refine zm_isub dX7_fit_63 ?_
  refine zm_goto 74 dX7_fit_64 (by decide) ?_
  refine zm_sub [1, 2] rfl ?_
  exact k
theorem gX7_fit_67 {d : Nat} {Q : Value → zm_S → Prop} {w : zm_S} {a2 : Int32} {a3 : Int32} {Q' : Value → zm_S → Prop} (hC : zm_C zc_H d mX0_largerShares [.ref 2] w Q') (k : ∀ (r : Int32) (u : zm_S), Q' (.int r) u → zm_T zc_H (d + 1) mX7_fit Q 74 [(2, .int a2), (3, .int a3)] [.int r] u) : zm_T zc_H (d + 1) mX7_fit Q 67 [(0, .ref 0), (2, .int a2), (3, .int a3)] [] w := by
  refine zm_aload_n (x := 0) 0 dX7_fit_67 rfl rfl ?_
  refine zm_getf (v := .ref 2) (j := 1) dX7_fit_68 clX7 flX7_16 (Nat.le_of_ble_eq_true rfl) zc_H0 rfl rfl ?_
  refine zm_callVi (as := []) (rest := []) dX7_fit_71 rfl mtX0_largerShares lkX7_173 zc_H2 (C := RX0) rfl rfl rfl (Nat.le_of_ble_eq_true rfl) hC rfl (fun r u hq => ?_)
  refine zm_sub [1, 2] rfl ?_
  exact k r u hq
theorem gX7_fit_74 {d : Nat} {Q : Value → zm_S → Prop} {w : zm_S} {a2 : Int32} {a3 : Int32} {s0 : Int32} {Q' : Value → zm_S → Prop} (hC : zm_C zc_H d mX7_lowestTerm [.long ((s0).toInt64), .long ((a3).toInt64), .int a2] w Q') (k : ∀ (r : Int64) (u : zm_S), Q' (.long r) u → zm_T zc_H (d + 1) mX7_fit Q 85 [] [.long r] u) : zm_T zc_H (d + 1) mX7_fit Q 74 [(2, .int a2), (3, .int a3)] [.int s0] w := by
  refine zm_istore dX7_fit_74 (Nat.le_of_ble_eq_true rfl) (ls' := [(4, .int s0), (2, .int a2), (3, .int a3)]) rfl ?_
  refine zm_iload (x := s0) 0 dX7_fit_76 rfl ?_
  refine zm_i2l dX7_fit_78 ?_
  refine zm_iload_n (x := a3) 2 dX7_fit_79 rfl rfl ?_
  refine zm_i2l dX7_fit_80 ?_
  refine zm_iload_n (x := a2) 1 dX7_fit_81 rfl rfl ?_
  refine zm_callSl (as := [.long ((s0).toInt64), .long ((a3).toInt64), .int a2]) (rest := []) dX7_fit_82 rfl mtX7_lowestTerm lkX7_176 rfl (Nat.le_of_ble_eq_true rfl) hC rfl (fun r u hq => ?_)
  refine zm_sub [] rfl ?_
  exact k r u hq
theorem gX7_fit_85 {d : Nat} {Q : Value → zm_S → Prop} {w : zm_S} {s0 : Int64} (k : Q (.long s0) w) : zm_T zc_H d mX7_fit Q 85 [] [.long s0] w := by
  exact zm_lreturn dX7_fit_85 rfl k
theorem gX7_odd_0 {d : Nat} {Q : Value → zm_S → Prop} {w : zm_S} {Q' : Value → zm_S → Prop} (hC : zm_C zc_H d mX4_searchBest [.ref 15, .ref 2] w Q') (k : ∀ (u : zm_S), Q' .null u → zm_T zc_H (d + 1) mX7_odd Q 11 [(0, .ref 0)] [] u) : zm_T zc_H (d + 1) mX7_odd Q 0 [(0, .ref 0)] [] w := by
  refine zm_aload_n (x := 0) 0 dX7_odd_0 rfl rfl ?_
  refine zm_getf (v := .ref 15) (j := 3) dX7_odd_1 clX7 flX7_30 (Nat.le_of_ble_eq_true rfl) zc_H0 rfl rfl ?_
  refine zm_aload_n (x := 0) 0 dX7_odd_4 rfl rfl ?_
  refine zm_getf (v := .ref 2) (j := 1) dX7_odd_5 clX7 flX7_16 (Nat.le_of_ble_eq_true rfl) zc_H0 rfl rfl ?_
  refine zm_callVv (as := [.ref 2]) (rest := []) dX7_odd_8 rfl mtX4_searchBest lkX7_141 zc_H15 (C := RX4) rfl rfl rfl (Nat.le_of_ble_eq_true rfl) hC rfl (fun u hq => ?_)
  exact k u hq
theorem gX7_odd_11 {d : Nat} {Q : Value → zm_S → Prop} {w : zm_S} (k : zm_T zc_H d mX7_odd Q 17 [(0, .ref 0), (1, .int (-1 : Int32)), (2, .int (0 : Int32)), (3, .int (0 : Int32))] [] w) : zm_T zc_H d mX7_odd Q 11 [(0, .ref 0)] [] w := by
  refine zm_iconst dX7_odd_11 (v := (-1 : Int32)) (by decide) ?_
  refine zm_istore_n dX7_odd_12 rfl (Nat.le_of_ble_eq_true rfl) (ls' := [(1, .int (-1 : Int32)), (0, .ref 0)]) rfl ?_
  refine zm_iconst dX7_odd_13 (v := (0 : Int32)) (by decide) ?_
  refine zm_istore_n dX7_odd_14 rfl (Nat.le_of_ble_eq_true rfl) (ls' := [(2, .int (0 : Int32)), (1, .int (-1 : Int32)), (0, .ref 0)]) rfl ?_
  refine zm_iconst dX7_odd_15 (v := (0 : Int32)) (by decide) ?_
  refine zm_istore_n dX7_odd_16 rfl (Nat.le_of_ble_eq_true rfl) (ls' := [(3, .int (0 : Int32)), (2, .int (0 : Int32)), (1, .int (-1 : Int32)), (0, .ref 0)]) rfl ?_
  refine zm_sub [3, 2, 1, 0] rfl ?_
  exact k
theorem gX7_odd_17 {d : Nat} {Q : Value → zm_S → Prop} {w : zm_S} {a1 : Int32} {a2 : Int32} {a3 : Int32} (kt : (12 : Int32) ≤ a3 → zm_T zc_H d mX7_odd Q 57 [(1, .int a1)] [] w) (kf : ¬ (12 : Int32) ≤ a3 → zm_T zc_H d mX7_odd Q 23 [(0, .ref 0), (1, .int a1), (2, .int a2), (3, .int a3)] [] w) : zm_T zc_H d mX7_odd Q 17 [(0, .ref 0), (1, .int a1), (2, .int a2), (3, .int a3)] [] w := by
  refine zm_iload_n (x := a3) 3 dX7_odd_17 rfl rfl ?_
  refine zm_bipush dX7_odd_18 (v := (12 : Int32)) (by decide) ?_
  refine zm_icmp_ge 57 dX7_odd_20 (by decide) (fun h => ?_) (fun h => ?_)
  · refine zm_sub [1] rfl ?_
    exact kt h
  · exact kf h
theorem gX7_odd_23 {d : Nat} {Q : Value → zm_S → Prop} {w : zm_S} {a1 : Int32} {a2 : Int32} {a3 : Int32} {Q' : Value → zm_S → Prop} (hC : zm_C zc_H d mX0_offIn [.ref 2, .int a3, .ref 21] w Q') (k : ∀ (r : Int32) (u : zm_S), Q' (.int r) u → zm_T zc_H (d + 1) mX7_odd Q 38 [(0, .ref 0), (1, .int a1), (2, .int a2), (3, .int a3)] [.int r] u) : zm_T zc_H (d + 1) mX7_odd Q 23 [(0, .ref 0), (1, .int a1), (2, .int a2), (3, .int a3)] [] w := by
  refine zm_aload_n (x := 0) 0 dX7_odd_23 rfl rfl ?_
  refine zm_getf (v := .ref 2) (j := 1) dX7_odd_24 clX7 flX7_16 (Nat.le_of_ble_eq_true rfl) zc_H0 rfl rfl ?_
  refine zm_iload_n (x := a3) 3 dX7_odd_27 rfl rfl ?_
  refine zm_aload_n (x := 0) 0 dX7_odd_28 rfl rfl ?_
  refine zm_getf (v := .ref 15) (j := 3) dX7_odd_29 clX7 flX7_30 (Nat.le_of_ble_eq_true rfl) zc_H0 rfl rfl ?_
  refine zm_getf (v := .ref 21) (j := 5) dX7_odd_32 clX4 flX7_151 (Nat.le_of_ble_eq_true rfl) zc_H15 rfl rfl ?_
  refine zm_callVi (as := [.int a3, .ref 21]) (rest := []) dX7_odd_35 rfl mtX0_offIn lkX7_158 zc_H2 (C := RX0) rfl rfl rfl (Nat.le_of_ble_eq_true rfl) hC rfl (fun r u hq => ?_)
  exact k r u hq
theorem gX7_odd_38 {d : Nat} {Q : Value → zm_S → Prop} {w : zm_S} {a1 : Int32} {a2 : Int32} {a3 : Int32} {s0 : Int32} (kt : s0 ≤ a2 → zm_T zc_H d mX7_odd Q 51 [(0, .ref 0), (1, .int a1), (2, .int a2), (3, .int a3)] [] w) (kf : ¬ s0 ≤ a2 → zm_T zc_H d mX7_odd Q 46 [(0, .ref 0), (3, .int a3), (4, .int s0)] [] w) : zm_T zc_H d mX7_odd Q 38 [(0, .ref 0), (1, .int a1), (2, .int a2), (3, .int a3)] [.int s0] w := by
  refine zm_istore dX7_odd_38 (Nat.le_of_ble_eq_true rfl) (ls' := [(4, .int s0), (0, .ref 0), (1, .int a1), (2, .int a2), (3, .int a3)]) rfl ?_
  refine zm_iload (x := s0) 0 dX7_odd_40 rfl ?_
  refine zm_iload_n (x := a2) 3 dX7_odd_42 rfl rfl ?_
  refine zm_icmp_le 51 dX7_odd_43 (by decide) (fun h => ?_) (fun h => ?_)
  · refine zm_sub [1, 2, 3, 4] rfl ?_
    exact kt h
  · refine zm_sub [1, 4, 0] rfl ?_
    exact kf h
theorem gX7_odd_46 {d : Nat} {Q : Value → zm_S → Prop} {w : zm_S} {a3 : Int32} {a4 : Int32} (k : zm_T zc_H d mX7_odd Q 51 [(0, .ref 0), (1, .int a3), (2, .int a4), (3, .int a3)] [] w) : zm_T zc_H d mX7_odd Q 46 [(0, .ref 0), (3, .int a3), (4, .int a4)] [] w := by
  refine zm_iload (x := a4) 2 dX7_odd_46 rfl ?_
  refine zm_istore_n dX7_odd_48 rfl (Nat.le_of_ble_eq_true rfl) (ls' := [(2, .int a4), (0, .ref 0), (3, .int a3), (4, .int a4)]) rfl ?_
  refine zm_iload_n (x := a3) 2 dX7_odd_49 rfl rfl ?_
  refine zm_istore_n dX7_odd_50 rfl (Nat.le_of_ble_eq_true rfl) (ls' := [(1, .int a3), (2, .int a4), (0, .ref 0), (3, .int a3), (4, .int a4)]) rfl ?_
  refine zm_sub [2, 0, 1, 3] rfl ?_
  exact k
theorem gX7_odd_51 {d : Nat} {Q : Value → zm_S → Prop} {w : zm_S} {a1 : Int32} {a2 : Int32} {a3 : Int32} (k : zm_T zc_H d mX7_odd Q 17 [(0, .ref 0), (1, .int a1), (2, .int a2), (3, .int (a3 + (1 : Int32)))] [] w) : zm_T zc_H d mX7_odd Q 51 [(0, .ref 0), (1, .int a1), (2, .int a2), (3, .int a3)] [] w := by
  refine zm_iinc 3 dX7_odd_51 (x := a3) (v := (a3 + (1 : Int32))) rfl rfl (Nat.le_of_ble_eq_true rfl) (ls' := [(3, .int (a3 + (1 : Int32))), (0, .ref 0), (1, .int a1), (2, .int a2)]) rfl ?_
  refine zm_goto 17 dX7_odd_54 (by decide) ?_
  refine zm_sub [1, 2, 3, 0] rfl ?_
  exact k
theorem gX7_odd_57 {d : Nat} {Q : Value → zm_S → Prop} {w : zm_S} {a1 : Int32} (k : Q (.int a1) w) : zm_T zc_H d mX7_odd Q 57 [(1, .int a1)] [] w := by
  refine zm_iload_n (x := a1) 0 dX7_odd_57 rfl rfl ?_
  exact zm_ireturn dX7_odd_58 rfl k
theorem gX7_without_0 {d : Nat} {Q : Value → zm_S → Prop} {w : zm_S} {a1 : Int32} {a2 : Int32} {Q' : Value → zm_S → Prop} (hC : zm_C zc_H d mX7_isQuestion [.ref 0, .int a1] w Q') (k : ∀ (r : Int32) (u : zm_S), Q' (.int r) u → zm_T zc_H (d + 1) mX7_without Q 5 [(0, .ref 0), (1, .int a1), (2, .int a2)] [.int r] u) : zm_T zc_H (d + 1) mX7_without Q 0 [(0, .ref 0), (1, .int a1), (2, .int a2)] [] w := by
  refine zm_aload_n (x := 0) 0 dX7_without_0 rfl rfl ?_
  refine zm_iload_n (x := a1) 1 dX7_without_1 rfl rfl ?_
  refine zm_callVz (as := [.int a1]) (rest := []) dX7_without_2 rfl mtX7_isQuestion lkX7_132 zc_H0 (C := RX7) rfl rfl rfl (Nat.le_of_ble_eq_true rfl) hC rfl (fun r u hq => ?_)
  exact k r u hq
theorem gX7_without_5 {d : Nat} {Q : Value → zm_S → Prop} {w : zm_S} {a1 : Int32} {a2 : Int32} {s0 : Int32} (kt : s0 = 0 → zm_T zc_H d mX7_without Q 16 [] [] w) (kf : ¬ s0 = 0 → zm_T zc_H d mX7_without Q 8 [(0, .ref 0), (1, .int a1), (2, .int a2)] [] w) : zm_T zc_H d mX7_without Q 5 [(0, .ref 0), (1, .int a1), (2, .int a2)] [.int s0] w := by
  refine zm_if_eq 16 dX7_without_5 (by decide) (fun h => ?_) (fun h => ?_)
  · refine zm_sub [] rfl ?_
    exact kt h
  · exact kf h
theorem gX7_without_8 {d : Nat} {Q : Value → zm_S → Prop} {w : zm_S} {a1 : Int32} {a2 : Int32} {Q' : Value → zm_S → Prop} (hC : zm_C zc_H d mX7_within [.int a2, .int (2 : Int32)] w Q') (k : ∀ (r : Int32) (u : zm_S), Q' (.int r) u → zm_T zc_H (d + 1) mX7_without Q 13 [(0, .ref 0), (1, .int a1), (2, .int a2)] [.int r] u) : zm_T zc_H (d + 1) mX7_without Q 8 [(0, .ref 0), (1, .int a1), (2, .int a2)] [] w := by
  refine zm_iload_n (x := a2) 2 dX7_without_8 rfl rfl ?_
  refine zm_iconst dX7_without_9 (v := (2 : Int32)) (by decide) ?_
  refine zm_callSz (as := [.int a2, .int (2 : Int32)]) (rest := []) dX7_without_10 rfl mtX7_within lkX7_62 rfl (Nat.le_of_ble_eq_true rfl) hC rfl (fun r u hq => ?_)
  exact k r u hq
theorem gX7_without_13 {d : Nat} {Q : Value → zm_S → Prop} {w : zm_S} {a1 : Int32} {a2 : Int32} {s0 : Int32} (kt : ¬ s0 = 0 → zm_T zc_H d mX7_without Q 19 [(0, .ref 0), (1, .int a1), (2, .int a2)] [] w) (kf : s0 = 0 → zm_T zc_H d mX7_without Q 16 [] [] w) : zm_T zc_H d mX7_without Q 13 [(0, .ref 0), (1, .int a1), (2, .int a2)] [.int s0] w := by
  refine zm_if_ne 19 dX7_without_13 (by decide) (fun h => ?_) (fun h => ?_)
  · exact kt h
  · refine zm_sub [] rfl ?_
    exact kf h
theorem gX7_without_16 {d : Nat} {Q : Value → zm_S → Prop} {w : zm_S} (k : Q (.int (-2 : Int32)) w) : zm_T zc_H d mX7_without Q 16 [] [] w := by
  refine zm_bipush dX7_without_16 (v := (-2 : Int32)) (by decide) ?_
  exact zm_ireturn dX7_without_18 rfl k
theorem gX7_without_19 {d : Nat} {Q : Value → zm_S → Prop} {w : zm_S} {a1 : Int32} {a2 : Int32} {Q' : Value → zm_S → Prop} (hC : zm_C zc_H d mX4_searchBest [.ref 15, .ref 2] w Q') (k : ∀ (u : zm_S), Q' .null u → zm_T zc_H (d + 1) mX7_without Q 30 [(0, .ref 0), (1, .int a1), (2, .int a2)] [] u) : zm_T zc_H (d + 1) mX7_without Q 19 [(0, .ref 0), (1, .int a1), (2, .int a2)] [] w := by
  refine zm_aload_n (x := 0) 0 dX7_without_19 rfl rfl ?_
  refine zm_getf (v := .ref 15) (j := 3) dX7_without_20 clX7 flX7_30 (Nat.le_of_ble_eq_true rfl) zc_H0 rfl rfl ?_
  refine zm_aload_n (x := 0) 0 dX7_without_23 rfl rfl ?_
  refine zm_getf (v := .ref 2) (j := 1) dX7_without_24 clX7 flX7_16 (Nat.le_of_ble_eq_true rfl) zc_H0 rfl rfl ?_
  refine zm_callVv (as := [.ref 2]) (rest := []) dX7_without_27 rfl mtX4_searchBest lkX7_141 zc_H15 (C := RX4) rfl rfl rfl (Nat.le_of_ble_eq_true rfl) hC rfl (fun u hq => ?_)
  exact k u hq
theorem gX7_without_30 {d : Nat} {Q : Value → zm_S → Prop} {w : zm_S} {a1 : Int32} {a2 : Int32} {Q' : Value → zm_S → Prop} (hC : zm_C zc_H d mX4_offChanged [.ref 15, .int a1, .int a2] w Q') (k : ∀ (r : Int32) (u : zm_S), Q' (.int r) u → zm_T zc_H (d + 1) mX7_without Q 39 [] [.int r] u) : zm_T zc_H (d + 1) mX7_without Q 30 [(0, .ref 0), (1, .int a1), (2, .int a2)] [] w := by
  refine zm_aload_n (x := 0) 0 dX7_without_30 rfl rfl ?_
  refine zm_getf (v := .ref 15) (j := 3) dX7_without_31 clX7 flX7_30 (Nat.le_of_ble_eq_true rfl) zc_H0 rfl rfl ?_
  refine zm_iload_n (x := a1) 1 dX7_without_34 rfl rfl ?_
  refine zm_iload_n (x := a2) 2 dX7_without_35 rfl rfl ?_
  refine zm_callVi (as := [.int a1, .int a2]) (rest := []) dX7_without_36 rfl mtX4_offChanged lkX7_180 zc_H15 (C := RX4) rfl rfl rfl (Nat.le_of_ble_eq_true rfl) hC rfl (fun r u hq => ?_)
  refine zm_sub [] rfl ?_
  exact k r u hq
theorem gX7_without_39 {d : Nat} {Q : Value → zm_S → Prop} {w : zm_S} {s0 : Int32} (k : Q (.int s0) w) : zm_T zc_H d mX7_without Q 39 [] [.int s0] w := by
  exact zm_ireturn dX7_without_39 rfl k
theorem gX7_worst_0 {d : Nat} {Q : Value → zm_S → Prop} {w : zm_S} {a1 : Int32} {Q' : Value → zm_S → Prop} (hC : zm_C zc_H d mX7_within [.int a1, .int (2 : Int32)] w Q') (k : ∀ (r : Int32) (u : zm_S), Q' (.int r) u → zm_T zc_H (d + 1) mX7_worst Q 5 [(0, .ref 0), (1, .int a1)] [.int r] u) : zm_T zc_H (d + 1) mX7_worst Q 0 [(0, .ref 0), (1, .int a1)] [] w := by
  refine zm_iload_n (x := a1) 1 dX7_worst_0 rfl rfl ?_
  refine zm_iconst dX7_worst_1 (v := (2 : Int32)) (by decide) ?_
  refine zm_callSz (as := [.int a1, .int (2 : Int32)]) (rest := []) dX7_worst_2 rfl mtX7_within lkX7_62 rfl (Nat.le_of_ble_eq_true rfl) hC rfl (fun r u hq => ?_)
  exact k r u hq
theorem gX7_worst_5 {d : Nat} {Q : Value → zm_S → Prop} {w : zm_S} {a1 : Int32} {s0 : Int32} (kt : ¬ s0 = 0 → zm_T zc_H d mX7_worst Q 11 [(0, .ref 0), (1, .int a1)] [] w) (kf : s0 = 0 → zm_T zc_H d mX7_worst Q 8 [] [] w) : zm_T zc_H d mX7_worst Q 5 [(0, .ref 0), (1, .int a1)] [.int s0] w := by
  refine zm_if_ne 11 dX7_worst_5 (by decide) (fun h => ?_) (fun h => ?_)
  · exact kt h
  · refine zm_sub [] rfl ?_
    exact kf h
theorem gX7_worst_8 {d : Nat} {Q : Value → zm_S → Prop} {w : zm_S} (k : Q (.int (-2 : Int32)) w) : zm_T zc_H d mX7_worst Q 8 [] [] w := by
  refine zm_bipush dX7_worst_8 (v := (-2 : Int32)) (by decide) ?_
  exact zm_ireturn dX7_worst_10 rfl k
theorem gX7_worst_11 {d : Nat} {Q : Value → zm_S → Prop} {w : zm_S} {a1 : Int32} {Q' : Value → zm_S → Prop} (hC : zm_C zc_H d mX4_searchBest [.ref 15, .ref 2] w Q') (k : ∀ (u : zm_S), Q' .null u → zm_T zc_H (d + 1) mX7_worst Q 22 [(0, .ref 0), (1, .int a1)] [] u) : zm_T zc_H (d + 1) mX7_worst Q 11 [(0, .ref 0), (1, .int a1)] [] w := by
  refine zm_aload_n (x := 0) 0 dX7_worst_11 rfl rfl ?_
  refine zm_getf (v := .ref 15) (j := 3) dX7_worst_12 clX7 flX7_30 (Nat.le_of_ble_eq_true rfl) zc_H0 rfl rfl ?_
  refine zm_aload_n (x := 0) 0 dX7_worst_15 rfl rfl ?_
  refine zm_getf (v := .ref 2) (j := 1) dX7_worst_16 clX7 flX7_16 (Nat.le_of_ble_eq_true rfl) zc_H0 rfl rfl ?_
  refine zm_callVv (as := [.ref 2]) (rest := []) dX7_worst_19 rfl mtX4_searchBest lkX7_141 zc_H15 (C := RX4) rfl rfl rfl (Nat.le_of_ble_eq_true rfl) hC rfl (fun u hq => ?_)
  exact k u hq
theorem gX7_worst_22 {d : Nat} {Q : Value → zm_S → Prop} {w : zm_S} {a1 : Int32} (k : zm_T zc_H d mX7_worst Q 26 [(0, .ref 0), (1, .int a1), (2, .int (0 : Int32)), (3, .int (1 : Int32))] [] w) : zm_T zc_H d mX7_worst Q 22 [(0, .ref 0), (1, .int a1)] [] w := by
  refine zm_iconst dX7_worst_22 (v := (0 : Int32)) (by decide) ?_
  refine zm_istore_n dX7_worst_23 rfl (Nat.le_of_ble_eq_true rfl) (ls' := [(2, .int (0 : Int32)), (0, .ref 0), (1, .int a1)]) rfl ?_
  refine zm_iconst dX7_worst_24 (v := (1 : Int32)) (by decide) ?_
  refine zm_istore_n dX7_worst_25 rfl (Nat.le_of_ble_eq_true rfl) (ls' := [(3, .int (1 : Int32)), (2, .int (0 : Int32)), (0, .ref 0), (1, .int a1)]) rfl ?_
  refine zm_sub [2, 3, 1, 0] rfl ?_
  exact k
theorem gX7_worst_26 {d : Nat} {Q : Value → zm_S → Prop} {w : zm_S} {a1 : Int32} {a2 : Int32} {a3 : Int32} (kt : (w.1 2 9) ≤ a3 → zm_T zc_H d mX7_worst Q 66 [(2, .int a2)] [] w) (kf : ¬ (w.1 2 9) ≤ a3 → zm_T zc_H d mX7_worst Q 37 [(0, .ref 0), (1, .int a1), (2, .int a2), (3, .int a3)] [] w) : zm_T zc_H d mX7_worst Q 26 [(0, .ref 0), (1, .int a1), (2, .int a2), (3, .int a3)] [] w := by
  refine zm_iload_n (x := a3) 3 dX7_worst_26 rfl rfl ?_
  refine zm_aload_n (x := 0) 0 dX7_worst_27 rfl rfl ?_
  refine zm_getf (v := .ref 2) (j := 1) dX7_worst_28 clX7 flX7_16 (Nat.le_of_ble_eq_true rfl) zc_H0 rfl rfl ?_
  refine zm_getf (v := .int (w.1 2 9)) (j := 9) dX7_worst_31 clX0 flX7_183 (Nat.le_of_ble_eq_true rfl) zc_H2 rfl rfl ?_
  refine zm_icmp_ge 66 dX7_worst_34 (by decide) (fun h => ?_) (fun h => ?_)
  · refine zm_sub [2] rfl ?_
    exact kt h
  · exact kf h
theorem gX7_worst_37 {d : Nat} {Q : Value → zm_S → Prop} {w : zm_S} {a1 : Int32} {a2 : Int32} {a3 : Int32} {Q' : Value → zm_S → Prop} (hC : zm_C zc_H d mX4_offChanged [.ref 15, .int a3, .int a1] w Q') (k : ∀ (r : Int32) (u : zm_S), Q' (.int r) u → zm_T zc_H (d + 1) mX7_worst Q 46 [(0, .ref 0), (1, .int a1), (2, .int a2), (3, .int a3)] [.int r] u) : zm_T zc_H (d + 1) mX7_worst Q 37 [(0, .ref 0), (1, .int a1), (2, .int a2), (3, .int a3)] [] w := by
  refine zm_aload_n (x := 0) 0 dX7_worst_37 rfl rfl ?_
  refine zm_getf (v := .ref 15) (j := 3) dX7_worst_38 clX7 flX7_30 (Nat.le_of_ble_eq_true rfl) zc_H0 rfl rfl ?_
  refine zm_iload_n (x := a3) 3 dX7_worst_41 rfl rfl ?_
  refine zm_iload_n (x := a1) 1 dX7_worst_42 rfl rfl ?_
  refine zm_callVi (as := [.int a3, .int a1]) (rest := []) dX7_worst_43 rfl mtX4_offChanged lkX7_180 zc_H15 (C := RX4) rfl rfl rfl (Nat.le_of_ble_eq_true rfl) hC rfl (fun r u hq => ?_)
  exact k r u hq
theorem gX7_worst_46 {d : Nat} {Q : Value → zm_S → Prop} {w : zm_S} {a1 : Int32} {a2 : Int32} {a3 : Int32} {s0 : Int32} {Q' : Value → zm_S → Prop} (hC : zm_C zc_H d mX4_offChanged [.ref 15, .int a2, .int a1] w Q') (k : ∀ (r : Int32) (u : zm_S), Q' (.int r) u → zm_T zc_H (d + 1) mX7_worst Q 55 [(0, .ref 0), (1, .int a1), (2, .int a2), (3, .int a3)] [.int r, .int s0] u) : zm_T zc_H (d + 1) mX7_worst Q 46 [(0, .ref 0), (1, .int a1), (2, .int a2), (3, .int a3)] [.int s0] w := by
  refine zm_aload_n (x := 0) 0 dX7_worst_46 rfl rfl ?_
  refine zm_getf (v := .ref 15) (j := 3) dX7_worst_47 clX7 flX7_30 (Nat.le_of_ble_eq_true rfl) zc_H0 rfl rfl ?_
  refine zm_iload_n (x := a2) 2 dX7_worst_50 rfl rfl ?_
  refine zm_iload_n (x := a1) 1 dX7_worst_51 rfl rfl ?_
  refine zm_callVi (as := [.int a2, .int a1]) (rest := [.int s0]) dX7_worst_52 rfl mtX4_offChanged lkX7_180 zc_H15 (C := RX4) rfl rfl rfl (Nat.le_of_ble_eq_true rfl) hC rfl (fun r u hq => ?_)
  exact k r u hq
theorem gX7_worst_55 {d : Nat} {Q : Value → zm_S → Prop} {w : zm_S} {a1 : Int32} {a2 : Int32} {a3 : Int32} {s0 : Int32} {s1 : Int32} (kt : s0 ≤ s1 → zm_T zc_H d mX7_worst Q 60 [(0, .ref 0), (1, .int a1), (2, .int a2), (3, .int a3)] [] w) (kf : ¬ s0 ≤ s1 → zm_T zc_H d mX7_worst Q 58 [(0, .ref 0), (1, .int a1), (3, .int a3)] [] w) : zm_T zc_H d mX7_worst Q 55 [(0, .ref 0), (1, .int a1), (2, .int a2), (3, .int a3)] [.int s0, .int s1] w := by
  refine zm_icmp_ge 60 dX7_worst_55 (by decide) (fun h => ?_) (fun h => ?_)
  · exact kt h
  · refine zm_sub [0, 1, 3] rfl ?_
    exact kf h
theorem gX7_worst_58 {d : Nat} {Q : Value → zm_S → Prop} {w : zm_S} {a1 : Int32} {a3 : Int32} (k : zm_T zc_H d mX7_worst Q 60 [(0, .ref 0), (1, .int a1), (2, .int a3), (3, .int a3)] [] w) : zm_T zc_H d mX7_worst Q 58 [(0, .ref 0), (1, .int a1), (3, .int a3)] [] w := by
  refine zm_iload_n (x := a3) 2 dX7_worst_58 rfl rfl ?_
  refine zm_istore_n dX7_worst_59 rfl (Nat.le_of_ble_eq_true rfl) (ls' := [(2, .int a3), (0, .ref 0), (1, .int a1), (3, .int a3)]) rfl ?_
  refine zm_sub [1, 2, 0, 3] rfl ?_
  exact k
theorem gX7_worst_60 {d : Nat} {Q : Value → zm_S → Prop} {w : zm_S} {a1 : Int32} {a2 : Int32} {a3 : Int32} (k : zm_T zc_H d mX7_worst Q 26 [(0, .ref 0), (1, .int a1), (2, .int a2), (3, .int (a3 + (1 : Int32)))] [] w) : zm_T zc_H d mX7_worst Q 60 [(0, .ref 0), (1, .int a1), (2, .int a2), (3, .int a3)] [] w := by
  refine zm_iinc 3 dX7_worst_60 (x := a3) (v := (a3 + (1 : Int32))) rfl rfl (Nat.le_of_ble_eq_true rfl) (ls' := [(3, .int (a3 + (1 : Int32))), (0, .ref 0), (1, .int a1), (2, .int a2)]) rfl ?_
  refine zm_goto 26 dX7_worst_63 (by decide) ?_
  refine zm_sub [1, 2, 3, 0] rfl ?_
  exact k
theorem gX7_worst_66 {d : Nat} {Q : Value → zm_S → Prop} {w : zm_S} {a2 : Int32} (k : Q (.int a2) w) : zm_T zc_H d mX7_worst Q 66 [(2, .int a2)] [] w := by
  refine zm_iload_n (x := a2) 0 dX7_worst_66 rfl rfl ?_
  exact zm_ireturn dX7_worst_67 rfl k
theorem gX7_states_0 {d : Nat} {Q : Value → zm_S → Prop} {w : zm_S} {a1 : Int32} (kt : (-1 : Int32) ≤ a1 → zm_T zc_H d mX7_states Q 8 [(0, .ref 0), (1, .int a1)] [] w) (kf : ¬ (-1 : Int32) ≤ a1 → zm_T zc_H d mX7_states Q 5 [] [] w) : zm_T zc_H d mX7_states Q 0 [(0, .ref 0), (1, .int a1)] [] w := by
  refine zm_iload_n (x := a1) 1 dX7_states_0 rfl rfl ?_
  refine zm_iconst dX7_states_1 (v := (-1 : Int32)) (by decide) ?_
  refine zm_icmp_ge 8 dX7_states_2 (by decide) (fun h => ?_) (fun h => ?_)
  · exact kt h
  · refine zm_sub [] rfl ?_
    exact kf h
theorem gX7_states_5 {d : Nat} {Q : Value → zm_S → Prop} {w : zm_S} (k : Q (.int (-2 : Int32)) w) : zm_T zc_H d mX7_states Q 5 [] [] w := by
  refine zm_bipush dX7_states_5 (v := (-2 : Int32)) (by decide) ?_
  exact zm_ireturn dX7_states_7 rfl k
theorem gX7_states_8 {d : Nat} {Q : Value → zm_S → Prop} {w : zm_S} {a1 : Int32} {Q' : Value → zm_S → Prop} (hC : zm_C zc_H d mX7_findStates [.ref 0] w Q') (k : ∀ (u : zm_S), Q' .null u → zm_T zc_H (d + 1) mX7_states Q 12 [(0, .ref 0), (1, .int a1)] [] u) : zm_T zc_H (d + 1) mX7_states Q 8 [(0, .ref 0), (1, .int a1)] [] w := by
  refine zm_aload_n (x := 0) 0 dX7_states_8 rfl rfl ?_
  refine zm_callVv (as := []) (rest := []) dX7_states_9 rfl mtX7_findStates lkX7_186 zc_H0 (C := RX7) rfl rfl rfl (Nat.le_of_ble_eq_true rfl) hC rfl (fun u hq => ?_)
  exact k u hq
theorem gX7_states_12 {d : Nat} {Q : Value → zm_S → Prop} {w : zm_S} {a1 : Int32} (kt : ¬ a1 = (-1 : Int32) → zm_T zc_H d mX7_states Q 25 [(0, .ref 0), (1, .int a1)] [] w) (kf : a1 = (-1 : Int32) → zm_T zc_H d mX7_states Q 17 [(0, .ref 0)] [] w) : zm_T zc_H d mX7_states Q 12 [(0, .ref 0), (1, .int a1)] [] w := by
  refine zm_iload_n (x := a1) 1 dX7_states_12 rfl rfl ?_
  refine zm_iconst dX7_states_13 (v := (-1 : Int32)) (by decide) ?_
  refine zm_icmp_ne 25 dX7_states_14 (by decide) (fun h => ?_) (fun h => ?_)
  · exact kt h
  · refine zm_sub [0] rfl ?_
    exact kf h
theorem gX7_states_17 {d : Nat} {Q : Value → zm_S → Prop} {w : zm_S} (k : Q (.int (w.1 23 7)) w) : zm_T zc_H d mX7_states Q 17 [(0, .ref 0)] [] w := by
  refine zm_aload_n (x := 0) 0 dX7_states_17 rfl rfl ?_
  refine zm_getf (v := .ref 23) (j := 4) dX7_states_18 clX7 flX7_37 (Nat.le_of_ble_eq_true rfl) zc_H0 rfl rfl ?_
  refine zm_getf (v := .int (w.1 23 7)) (j := 7) dX7_states_21 clX6 flX7_189 (Nat.le_of_ble_eq_true rfl) zc_H23 rfl rfl ?_
  exact zm_ireturn dX7_states_24 rfl k
theorem gX7_states_25 {d : Nat} {Q : Value → zm_S → Prop} {w : zm_S} {a1 : Int32} (kt : (w.1 23 7) ≤ a1 → zm_T zc_H d mX7_states Q 48 [] [] w) (kf : ¬ (w.1 23 7) ≤ a1 → zm_T zc_H d mX7_states Q 36 [(0, .ref 0), (1, .int a1)] [] w) : zm_T zc_H d mX7_states Q 25 [(0, .ref 0), (1, .int a1)] [] w := by
  refine zm_iload_n (x := a1) 1 dX7_states_25 rfl rfl ?_
  refine zm_aload_n (x := 0) 0 dX7_states_26 rfl rfl ?_
  refine zm_getf (v := .ref 23) (j := 4) dX7_states_27 clX7 flX7_37 (Nat.le_of_ble_eq_true rfl) zc_H0 rfl rfl ?_
  refine zm_getf (v := .int (w.1 23 7)) (j := 7) dX7_states_30 clX6 flX7_189 (Nat.le_of_ble_eq_true rfl) zc_H23 rfl rfl ?_
  refine zm_icmp_ge 48 dX7_states_33 (by decide) (fun h => ?_) (fun h => ?_)
  · refine zm_sub [] rfl ?_
    exact kt h
  · exact kf h
theorem gX7_states_36 {d : Nat} {Q : Value → zm_S → Prop} {w : zm_S} {a1 : Int32} (hi44 : vp_in a1 128) (k : Q (.int (w.1 26 (a1).toNatClampNeg)) w) : zm_T zc_H d mX7_states Q 36 [(0, .ref 0), (1, .int a1)] [] w := by
  refine zm_aload_n (x := 0) 0 dX7_states_36 rfl rfl ?_
  refine zm_getf (v := .ref 23) (j := 4) dX7_states_37 clX7 flX7_37 (Nat.le_of_ble_eq_true rfl) zc_H0 rfl rfl ?_
  refine zm_getf (v := .ref 26) (j := 2) dX7_states_40 clX6 flX7_190 (Nat.le_of_ble_eq_true rfl) zc_H23 rfl rfl ?_
  refine zm_iload_n (x := a1) 1 dX7_states_43 rfl rfl ?_
  refine zm_iald dX7_states_44 zc_H26 hi44 ?_
  refine zm_goto 49 dX7_states_45 (by decide) ?_
  exact zm_ireturn dX7_states_49 rfl k
theorem gX7_states_48 {d : Nat} {Q : Value → zm_S → Prop} {w : zm_S} (k : Q (.int (-1 : Int32)) w) : zm_T zc_H d mX7_states Q 48 [] [] w := by
  refine zm_iconst dX7_states_48 (v := (-1 : Int32)) (by decide) ?_
  exact zm_ireturn dX7_states_49 rfl k
theorem gX7_belongs_0 {d : Nat} {Q : Value → zm_S → Prop} {w : zm_S} {a1 : Int32} {a2 : Int32} {Q' : Value → zm_S → Prop} (hC : zm_C zc_H d mX7_within [.int a1, .int (12 : Int32)] w Q') (k : ∀ (r : Int32) (u : zm_S), Q' (.int r) u → zm_T zc_H (d + 1) mX7_belongs Q 6 [(0, .ref 0), (1, .int a1), (2, .int a2)] [.int r] u) : zm_T zc_H (d + 1) mX7_belongs Q 0 [(0, .ref 0), (1, .int a1), (2, .int a2)] [] w := by
  refine zm_iload_n (x := a1) 1 dX7_belongs_0 rfl rfl ?_
  refine zm_bipush dX7_belongs_1 (v := (12 : Int32)) (by decide) ?_
  refine zm_callSz (as := [.int a1, .int (12 : Int32)]) (rest := []) dX7_belongs_3 rfl mtX7_within lkX7_62 rfl (Nat.le_of_ble_eq_true rfl) hC rfl (fun r u hq => ?_)
  exact k r u hq
theorem gX7_belongs_6 {d : Nat} {Q : Value → zm_S → Prop} {w : zm_S} {a1 : Int32} {a2 : Int32} {s0 : Int32} (kt : s0 = 0 → zm_T zc_H d mX7_belongs Q 17 [] [] w) (kf : ¬ s0 = 0 → zm_T zc_H d mX7_belongs Q 9 [(0, .ref 0), (1, .int a1), (2, .int a2)] [] w) : zm_T zc_H d mX7_belongs Q 6 [(0, .ref 0), (1, .int a1), (2, .int a2)] [.int s0] w := by
  refine zm_if_eq 17 dX7_belongs_6 (by decide) (fun h => ?_) (fun h => ?_)
  · refine zm_sub [] rfl ?_
    exact kt h
  · exact kf h
theorem gX7_belongs_9 {d : Nat} {Q : Value → zm_S → Prop} {w : zm_S} {a1 : Int32} {a2 : Int32} {Q' : Value → zm_S → Prop} (hC : zm_C zc_H d mX7_within [.int a2, .int (3 : Int32)] w Q') (k : ∀ (r : Int32) (u : zm_S), Q' (.int r) u → zm_T zc_H (d + 1) mX7_belongs Q 14 [(0, .ref 0), (1, .int a1), (2, .int a2)] [.int r] u) : zm_T zc_H (d + 1) mX7_belongs Q 9 [(0, .ref 0), (1, .int a1), (2, .int a2)] [] w := by
  refine zm_iload_n (x := a2) 2 dX7_belongs_9 rfl rfl ?_
  refine zm_iconst dX7_belongs_10 (v := (3 : Int32)) (by decide) ?_
  refine zm_callSz (as := [.int a2, .int (3 : Int32)]) (rest := []) dX7_belongs_11 rfl mtX7_within lkX7_62 rfl (Nat.le_of_ble_eq_true rfl) hC rfl (fun r u hq => ?_)
  exact k r u hq
theorem gX7_belongs_14 {d : Nat} {Q : Value → zm_S → Prop} {w : zm_S} {a1 : Int32} {a2 : Int32} {s0 : Int32} (kt : ¬ s0 = 0 → zm_T zc_H d mX7_belongs Q 20 [(0, .ref 0), (1, .int a1), (2, .int a2)] [] w) (kf : s0 = 0 → zm_T zc_H d mX7_belongs Q 17 [] [] w) : zm_T zc_H d mX7_belongs Q 14 [(0, .ref 0), (1, .int a1), (2, .int a2)] [.int s0] w := by
  refine zm_if_ne 20 dX7_belongs_14 (by decide) (fun h => ?_) (fun h => ?_)
  · exact kt h
  · refine zm_sub [] rfl ?_
    exact kf h
theorem gX7_belongs_17 {d : Nat} {Q : Value → zm_S → Prop} {w : zm_S} (k : Q (.int (-2 : Int32)) w) : zm_T zc_H d mX7_belongs Q 17 [] [] w := by
  refine zm_bipush dX7_belongs_17 (v := (-2 : Int32)) (by decide) ?_
  exact zm_ireturn dX7_belongs_19 rfl k
theorem gX7_belongs_20 {d : Nat} {Q : Value → zm_S → Prop} {w : zm_S} {a1 : Int32} {a2 : Int32} {Q' : Value → zm_S → Prop} (hC : zm_C zc_H d mX7_findStates [.ref 0] w Q') (k : ∀ (u : zm_S), Q' .null u → zm_T zc_H (d + 1) mX7_belongs Q 24 [(0, .ref 0), (1, .int a1), (2, .int a2)] [] u) : zm_T zc_H (d + 1) mX7_belongs Q 20 [(0, .ref 0), (1, .int a1), (2, .int a2)] [] w := by
  refine zm_aload_n (x := 0) 0 dX7_belongs_20 rfl rfl ?_
  refine zm_callVv (as := []) (rest := []) dX7_belongs_21 rfl mtX7_findStates lkX7_186 zc_H0 (C := RX7) rfl rfl rfl (Nat.le_of_ble_eq_true rfl) hC rfl (fun u hq => ?_)
  exact k u hq
theorem gX7_belongs_24 {d : Nat} {Q : Value → zm_S → Prop} {w : zm_S} {a1 : Int32} {a2 : Int32} {Q' : Value → zm_S → Prop} (hC : zm_C zc_H d mX7_stateOf [.ref 0, .int a1] w Q') (k : ∀ (r : Int32) (u : zm_S), Q' (.int r) u → zm_T zc_H (d + 1) mX7_belongs Q 29 [(0, .ref 0), (1, .int a1), (2, .int a2)] [.int r] u) : zm_T zc_H (d + 1) mX7_belongs Q 24 [(0, .ref 0), (1, .int a1), (2, .int a2)] [] w := by
  refine zm_aload_n (x := 0) 0 dX7_belongs_24 rfl rfl ?_
  refine zm_iload_n (x := a1) 1 dX7_belongs_25 rfl rfl ?_
  refine zm_callVi (as := [.int a1]) (rest := []) dX7_belongs_26 rfl mtX7_stateOf lkX7_193 zc_H0 (C := RX7) rfl rfl rfl (Nat.le_of_ble_eq_true rfl) hC rfl (fun r u hq => ?_)
  exact k r u hq
theorem gX7_belongs_29 {d : Nat} {Q : Value → zm_S → Prop} {w : zm_S} {a1 : Int32} {a2 : Int32} {s0 : Int32} (kt : ¬ a2 = 0 → zm_T zc_H d mX7_belongs Q 36 [(0, .ref 0), (1, .int a1), (2, .int a2), (3, .int s0)] [] w) (kf : a2 = 0 → zm_T zc_H d mX7_belongs Q 34 [(3, .int s0)] [] w) : zm_T zc_H d mX7_belongs Q 29 [(0, .ref 0), (1, .int a1), (2, .int a2)] [.int s0] w := by
  refine zm_istore_n dX7_belongs_29 rfl (Nat.le_of_ble_eq_true rfl) (ls' := [(3, .int s0), (0, .ref 0), (1, .int a1), (2, .int a2)]) rfl ?_
  refine zm_iload_n (x := a2) 3 dX7_belongs_30 rfl rfl ?_
  refine zm_if_ne 36 dX7_belongs_31 (by decide) (fun h => ?_) (fun h => ?_)
  · refine zm_sub [1, 2, 3, 0] rfl ?_
    exact kt h
  · refine zm_sub [0] rfl ?_
    exact kf h
theorem gX7_belongs_34 {d : Nat} {Q : Value → zm_S → Prop} {w : zm_S} {a3 : Int32} (k : Q (.int a3) w) : zm_T zc_H d mX7_belongs Q 34 [(3, .int a3)] [] w := by
  refine zm_iload_n (x := a3) 0 dX7_belongs_34 rfl rfl ?_
  exact zm_ireturn dX7_belongs_35 rfl k
theorem gX7_belongs_36 {d : Nat} {Q : Value → zm_S → Prop} {w : zm_S} {a1 : Int32} {a2 : Int32} {a3 : Int32} {Q' : Value → zm_S → Prop} (hC : zm_C zc_H d mX0_errorsWith [.ref 2, .int a1, .int a3] w Q') (k : ∀ (r : Int32) (u : zm_S), Q' (.int r) u → zm_T zc_H (d + 1) mX7_belongs Q 45 [(0, .ref 0), (1, .int a1), (2, .int a2)] [.int r] u) : zm_T zc_H (d + 1) mX7_belongs Q 36 [(0, .ref 0), (1, .int a1), (2, .int a2), (3, .int a3)] [] w := by
  refine zm_aload_n (x := 0) 0 dX7_belongs_36 rfl rfl ?_
  refine zm_getf (v := .ref 2) (j := 1) dX7_belongs_37 clX7 flX7_16 (Nat.le_of_ble_eq_true rfl) zc_H0 rfl rfl ?_
  refine zm_iload_n (x := a1) 1 dX7_belongs_40 rfl rfl ?_
  refine zm_iload_n (x := a3) 3 dX7_belongs_41 rfl rfl ?_
  refine zm_callVi (as := [.int a1, .int a3]) (rest := []) dX7_belongs_42 rfl mtX0_errorsWith lkX7_138 zc_H2 (C := RX0) rfl rfl rfl (Nat.le_of_ble_eq_true rfl) hC rfl (fun r u hq => ?_)
  refine zm_sub [0, 1, 2] rfl ?_
  exact k r u hq
