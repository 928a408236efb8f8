theorem gX7_belongs_45 {d : Nat} {Q : Value → zm_S → Prop} {w : zm_S} {a1 : Int32} {a2 : Int32} {s0 : Int32} (kt : ¬ a2 = (1 : Int32) → zm_T zc_H d mX7_belongs Q 57 [(0, .ref 0), (1, .int a1), (4, .int s0)] [] w) (kf : a2 = (1 : Int32) → zm_T zc_H d mX7_belongs Q 52 [(4, .int s0)] [] w) : zm_T zc_H d mX7_belongs Q 45 [(0, .ref 0), (1, .int a1), (2, .int a2)] [.int s0] w := by
  refine zm_istore dX7_belongs_45 (Nat.le_of_ble_eq_true rfl) (ls' := [(4, .int s0), (0, .ref 0), (1, .int a1), (2, .int a2)]) rfl ?_
  refine zm_iload_n (x := a2) 3 dX7_belongs_47 rfl rfl ?_
  refine zm_iconst dX7_belongs_48 (v := (1 : Int32)) (by decide) ?_
  refine zm_icmp_ne 57 dX7_belongs_49 (by decide) (fun h => ?_) (fun h => ?_)
  · refine zm_sub [1, 2, 0] rfl ?_
    exact kt h
  · refine zm_sub [0] rfl ?_
    exact kf h
theorem gX7_belongs_52 {d : Nat} {Q : Value → zm_S → Prop} {w : zm_S} {a4 : Int32} (k : zm_T zc_H d mX7_belongs Q 64 [] [.int a4] w) : zm_T zc_H d mX7_belongs Q 52 [(4, .int a4)] [] w := by
  refine zm_iload (x := a4) 0 dX7_belongs_52 rfl ?_
  refine zm_goto 64 dX7_belongs_54 (by decide) ?_
  refine zm_sub [] rfl ?_
  exact k
theorem gX7_belongs_57 {d : Nat} {Q : Value → zm_S → Prop} {w : zm_S} {a1 : Int32} {a4 : Int32} {Q' : Value → zm_S → Prop} (hC : zm_C zc_H d mX7_statesWithErrors [.ref 0, .int a1, .int a4] w Q') (k : ∀ (r : Int32) (u : zm_S), Q' (.int r) u → zm_T zc_H (d + 1) mX7_belongs Q 64 [] [.int r] u) : zm_T zc_H (d + 1) mX7_belongs Q 57 [(0, .ref 0), (1, .int a1), (4, .int a4)] [] w := by
  refine zm_aload_n (x := 0) 0 dX7_belongs_57 rfl rfl ?_
  refine zm_iload_n (x := a1) 1 dX7_belongs_58 rfl rfl ?_
  refine zm_iload (x := a4) 2 dX7_belongs_59 rfl ?_
  refine zm_callVi (as := [.int a1, .int a4]) (rest := []) dX7_belongs_61 rfl mtX7_statesWithErrors lkX7_196 zc_H0 (C := RX7) rfl rfl rfl (Nat.le_of_ble_eq_true rfl) hC rfl (fun r u hq => ?_)
  refine zm_sub [] rfl ?_
  exact k r u hq
theorem gX7_belongs_64 {d : Nat} {Q : Value → zm_S → Prop} {w : zm_S} {s0 : Int32} (k : Q (.int s0) w) : zm_T zc_H d mX7_belongs Q 64 [] [.int s0] w := by
  exact zm_ireturn dX7_belongs_64 rfl k
theorem gX7_next_0 {d : Nat} {Q : Value → zm_S → Prop} {w : zm_S} {a1 : Int32} {a2 : Int32} {Q' : Value → zm_S → Prop} (hC : zm_C zc_H d mX7_within [.int a1, .int (128 : Int32)] w Q') (k : ∀ (r : Int32) (u : zm_S), Q' (.int r) u → zm_T zc_H (d + 1) mX7_next Q 7 [(0, .ref 0), (1, .int a1), (2, .int a2)] [.int r] u) : zm_T zc_H (d + 1) mX7_next Q 0 [(0, .ref 0), (1, .int a1), (2, .int a2)] [] w := by
  refine zm_iload_n (x := a1) 1 dX7_next_0 rfl rfl ?_
  refine zm_sipush dX7_next_1 (v := (128 : Int32)) (by decide) ?_
  refine zm_callSz (as := [.int a1, .int (128 : Int32)]) (rest := []) dX7_next_4 rfl mtX7_within lkX7_62 rfl (Nat.le_of_ble_eq_true rfl) hC rfl (fun r u hq => ?_)
  exact k r u hq
theorem gX7_next_7 {d : Nat} {Q : Value → zm_S → Prop} {w : zm_S} {a1 : Int32} {a2 : Int32} {s0 : Int32} (kt : s0 = 0 → zm_T zc_H d mX7_next Q 18 [] [] w) (kf : ¬ s0 = 0 → zm_T zc_H d mX7_next Q 10 [(0, .ref 0), (1, .int a1), (2, .int a2)] [] w) : zm_T zc_H d mX7_next Q 7 [(0, .ref 0), (1, .int a1), (2, .int a2)] [.int s0] w := by
  refine zm_if_eq 18 dX7_next_7 (by decide) (fun h => ?_) (fun h => ?_)
  · refine zm_sub [] rfl ?_
    exact kt h
  · exact kf h
theorem gX7_next_10 {d : Nat} {Q : Value → zm_S → Prop} {w : zm_S} {a1 : Int32} {a2 : Int32} {Q' : Value → zm_S → Prop} (hC : zm_C zc_H d mX7_within [.int a2, .int (3 : Int32)] w Q') (k : ∀ (r : Int32) (u : zm_S), Q' (.int r) u → zm_T zc_H (d + 1) mX7_next Q 15 [(0, .ref 0), (1, .int a1), (2, .int a2)] [.int r] u) : zm_T zc_H (d + 1) mX7_next Q 10 [(0, .ref 0), (1, .int a1), (2, .int a2)] [] w := by
  refine zm_iload_n (x := a2) 2 dX7_next_10 rfl rfl ?_
  refine zm_iconst dX7_next_11 (v := (3 : Int32)) (by decide) ?_
  refine zm_callSz (as := [.int a2, .int (3 : Int32)]) (rest := []) dX7_next_12 rfl mtX7_within lkX7_62 rfl (Nat.le_of_ble_eq_true rfl) hC rfl (fun r u hq => ?_)
  exact k r u hq
theorem gX7_next_15 {d : Nat} {Q : Value → zm_S → Prop} {w : zm_S} {a1 : Int32} {a2 : Int32} {s0 : Int32} (kt : ¬ s0 = 0 → zm_T zc_H d mX7_next Q 21 [(0, .ref 0), (1, .int a1), (2, .int a2)] [] w) (kf : s0 = 0 → zm_T zc_H d mX7_next Q 18 [] [] w) : zm_T zc_H d mX7_next Q 15 [(0, .ref 0), (1, .int a1), (2, .int a2)] [.int s0] w := by
  refine zm_if_ne 21 dX7_next_15 (by decide) (fun h => ?_) (fun h => ?_)
  · exact kt h
  · refine zm_sub [] rfl ?_
    exact kf h
theorem gX7_next_18 {d : Nat} {Q : Value → zm_S → Prop} {w : zm_S} (k : Q (.int (-2 : Int32)) w) : zm_T zc_H d mX7_next Q 18 [] [] w := by
  refine zm_bipush dX7_next_18 (v := (-2 : Int32)) (by decide) ?_
  exact zm_ireturn dX7_next_20 rfl k
theorem gX7_next_21 {d : Nat} {Q : Value → zm_S → Prop} {w : zm_S} {a1 : Int32} {a2 : Int32} {Q' : Value → zm_S → Prop} (hC : zm_C zc_H d mX7_findStates [.ref 0] w Q') (k : ∀ (u : zm_S), Q' .null u → zm_T zc_H (d + 1) mX7_next Q 25 [(0, .ref 0), (1, .int a1), (2, .int a2)] [] u) : zm_T zc_H (d + 1) mX7_next Q 21 [(0, .ref 0), (1, .int a1), (2, .int a2)] [] w := by
  refine zm_aload_n (x := 0) 0 dX7_next_21 rfl rfl ?_
  refine zm_callVv (as := []) (rest := []) dX7_next_22 rfl mtX7_findStates lkX7_186 zc_H0 (C := RX7) rfl rfl rfl (Nat.le_of_ble_eq_true rfl) hC rfl (fun u hq => ?_)
  exact k u hq
theorem gX7_next_25 {d : Nat} {Q : Value → zm_S → Prop} {w : zm_S} {a1 : Int32} {a2 : Int32} (kt : ¬ a2 = (2 : Int32) → zm_T zc_H d mX7_next Q 58 [(0, .ref 0), (2, .int a2), (3, .int (a1 &&& (w.1 23 6)))] [] w) (kf : a2 = (2 : Int32) → zm_T zc_H d mX7_next Q 40 [(0, .ref 0), (3, .int (a1 &&& (w.1 23 6)))] [] w) : zm_T zc_H d mX7_next Q 25 [(0, .ref 0), (1, .int a1), (2, .int a2)] [] w := by
  refine zm_iload_n (x := a1) 1 dX7_next_25 rfl rfl ?_
  refine zm_aload_n (x := 0) 0 dX7_next_26 rfl rfl ?_
  refine zm_getf (v := .ref 23) (j := 4) dX7_next_27 clX7 flX7_37 (Nat.le_of_ble_eq_true rfl) zc_H0 rfl rfl ?_
  refine zm_getf (v := .int (w.1 23 6)) (j := 6) dX7_next_30 clX6 flX7_199 (Nat.le_of_ble_eq_true rfl) zc_H23 rfl rfl ?_
  refine zm_iand dX7_next_33 ?_
  refine zm_istore_n dX7_next_34 rfl (Nat.le_of_ble_eq_true rfl) (ls' := [(3, .int (a1 &&& (w.1 23 6))), (0, .ref 0), (1, .int a1), (2, .int a2)]) rfl ?_
  refine zm_iload_n (x := a2) 3 dX7_next_35 rfl rfl ?_
  refine zm_iconst dX7_next_36 (v := (2 : Int32)) (by decide) ?_
  refine zm_icmp_ne 58 dX7_next_37 (by decide) (fun h => ?_) (fun h => ?_)
  · refine zm_sub [1, 3, 0] rfl ?_
    exact kt h
  · refine zm_sub [1, 0] rfl ?_
    exact kf h
theorem gX7_next_40 {d : Nat} {Q : Value → zm_S → Prop} {w : zm_S} {a3 : Int32} (hi48 : vp_in a3 128) (kt : (w.1 25 (a3).toNatClampNeg) = 0 → zm_T zc_H d mX7_next Q 56 [] [] w) (kf : ¬ (w.1 25 (a3).toNatClampNeg) = 0 → zm_T zc_H d mX7_next Q 52 [] [] w) : zm_T zc_H d mX7_next Q 40 [(0, .ref 0), (3, .int a3)] [] w := by
  refine zm_aload_n (x := 0) 0 dX7_next_40 rfl rfl ?_
  refine zm_getf (v := .ref 23) (j := 4) dX7_next_41 clX7 flX7_37 (Nat.le_of_ble_eq_true rfl) zc_H0 rfl rfl ?_
  refine zm_getf (v := .ref 25) (j := 1) dX7_next_44 clX6 flX7_202 (Nat.le_of_ble_eq_true rfl) zc_H23 rfl rfl ?_
  refine zm_iload_n (x := a3) 1 dX7_next_47 rfl rfl ?_
  refine zm_zald dX7_next_48 zc_H25 hi48 ?_
  refine zm_if_eq 56 dX7_next_49 (by decide) (fun h => ?_) (fun h => ?_)
  · refine zm_sub [] rfl ?_
    exact kt h
  · refine zm_sub [] rfl ?_
    exact kf h
theorem gX7_next_52 {d : Nat} {Q : Value → zm_S → Prop} {w : zm_S} (k : Q (.int (1 : Int32)) w) : zm_T zc_H d mX7_next Q 52 [] [] w := by
  refine zm_iconst dX7_next_52 (v := (1 : Int32)) (by decide) ?_
  refine zm_goto 57 dX7_next_53 (by decide) ?_
  exact zm_ireturn dX7_next_57 rfl k
theorem gX7_next_56 {d : Nat} {Q : Value → zm_S → Prop} {w : zm_S} (k : Q (.int (0 : Int32)) w) : zm_T zc_H d mX7_next Q 56 [] [] w := by
  refine zm_iconst dX7_next_56 (v := (0 : Int32)) (by decide) ?_
  exact zm_ireturn dX7_next_57 rfl k
theorem gX7_next_58 {d : Nat} {Q : Value → zm_S → Prop} {w : zm_S} {a2 : Int32} {a3 : Int32} {Q' : Value → zm_S → Prop} (hC : zm_C zc_H d mX6_neighbours [.ref 23, .int a3] w Q') (k : ∀ (r : Int32) (u : zm_S), Q' (.int r) u → zm_T zc_H (d + 1) mX7_next Q 66 [(2, .int a2), (3, .int a3)] [.int r] u) : zm_T zc_H (d + 1) mX7_next Q 58 [(0, .ref 0), (2, .int a2), (3, .int a3)] [] w := by
  refine zm_aload_n (x := 0) 0 dX7_next_58 rfl rfl ?_
  refine zm_getf (v := .ref 23) (j := 4) dX7_next_59 clX7 flX7_37 (Nat.le_of_ble_eq_true rfl) zc_H0 rfl rfl ?_
  refine zm_iload_n (x := a3) 2 dX7_next_62 rfl rfl ?_
  refine zm_callVi (as := [.int a3]) (rest := []) dX7_next_63 rfl mtX6_neighbours lkX7_206 zc_H23 (C := RX6) rfl rfl rfl (Nat.le_of_ble_eq_true rfl) hC rfl (fun r u hq => ?_)
  refine zm_sub [1, 2] rfl ?_
  exact k r u hq
theorem gX7_next_66 {d : Nat} {Q : Value → zm_S → Prop} {w : zm_S} {a2 : Int32} {a3 : Int32} {s0 : Int32} (kt : ¬ a2 = 0 → zm_T zc_H d mX7_next Q 76 [(3, .int a3)] [.int s0] w) (kf : a2 = 0 → zm_T zc_H d mX7_next Q 70 [(3, .int a3)] [.int s0] w) : zm_T zc_H d mX7_next Q 66 [(2, .int a2), (3, .int a3)] [.int s0] w := by
  refine zm_iload_n (x := a2) 0 dX7_next_66 rfl rfl ?_
  refine zm_if_ne 76 dX7_next_67 (by decide) (fun h => ?_) (fun h => ?_)
  · refine zm_sub [1] rfl ?_
    exact kt h
  · refine zm_sub [1] rfl ?_
    exact kf h
theorem gX7_next_70 {d : Nat} {Q : Value → zm_S → Prop} {w : zm_S} {a3 : Int32} {s0 : Int32} (k : zm_T zc_H d mX7_next Q 77 [] [.int (a3 ^^^ (-1 : Int32)), .int s0] w) : zm_T zc_H d mX7_next Q 70 [(3, .int a3)] [.int s0] w := by
  refine zm_iload_n (x := a3) 0 dX7_next_70 rfl rfl ?_
  refine zm_iconst dX7_next_71 (v := (-1 : Int32)) (by decide) ?_
  refine zm_ixor dX7_next_72 ?_
  refine zm_goto 77 dX7_next_73 (by decide) ?_
  refine zm_sub [] rfl ?_
  exact k
theorem gX7_next_76 {d : Nat} {Q : Value → zm_S → Prop} {w : zm_S} {a3 : Int32} {s0 : Int32} (k : zm_T zc_H d mX7_next Q 77 [] [.int a3, .int s0] w) : zm_T zc_H d mX7_next Q 76 [(3, .int a3)] [.int s0] w := by
  refine zm_iload_n (x := a3) 0 dX7_next_76 rfl rfl ?_
  refine zm_sub [] rfl ?_
  exact k
theorem gX7_next_77 {d : Nat} {Q : Value → zm_S → Prop} {w : zm_S} {s0 : Int32} {s1 : Int32} (k : Q (.int (s1 &&& s0)) w) : zm_T zc_H d mX7_next Q 77 [] [.int s0, .int s1] w := by
  refine zm_iand dX7_next_77 ?_
  exact zm_ireturn dX7_next_78 rfl k
theorem gX7_paths_0 {d : Nat} {Q : Value → zm_S → Prop} {w : zm_S} {Q' : Value → zm_S → Prop} (hC : zm_C zc_H d mX7_findStates [.ref 0] w Q') (k : ∀ (u : zm_S), Q' .null u → zm_T zc_H (d + 1) mX7_paths Q 4 [(0, .ref 0)] [] u) : zm_T zc_H (d + 1) mX7_paths Q 0 [(0, .ref 0)] [] w := by
  refine zm_aload_n (x := 0) 0 dX7_paths_0 rfl rfl ?_
  refine zm_callVv (as := []) (rest := []) dX7_paths_1 rfl mtX7_findStates lkX7_186 zc_H0 (C := RX7) rfl rfl rfl (Nat.le_of_ble_eq_true rfl) hC rfl (fun u hq => ?_)
  exact k u hq
theorem gX7_paths_4 {d : Nat} {Q : Value → zm_S → Prop} {w : zm_S} {Q' : Value → zm_S → Prop} (hC : zm_C zc_H d mX6_waysToAll [.ref 23] w Q') (k : ∀ (r : Int32) (u : zm_S), Q' (.int r) u → zm_T zc_H (d + 1) mX7_paths Q 11 [] [.int r] u) : zm_T zc_H (d + 1) mX7_paths Q 4 [(0, .ref 0)] [] w := by
  refine zm_aload_n (x := 0) 0 dX7_paths_4 rfl rfl ?_
  refine zm_getf (v := .ref 23) (j := 4) dX7_paths_5 clX7 flX7_37 (Nat.le_of_ble_eq_true rfl) zc_H0 rfl rfl ?_
  refine zm_callVi (as := []) (rest := []) dX7_paths_8 rfl mtX6_waysToAll lkX7_209 zc_H23 (C := RX6) rfl rfl rfl (Nat.le_of_ble_eq_true rfl) hC rfl (fun r u hq => ?_)
  refine zm_sub [] rfl ?_
  exact k r u hq
theorem gX7_paths_11 {d : Nat} {Q : Value → zm_S → Prop} {w : zm_S} {s0 : Int32} (k : Q (.int s0) w) : zm_T zc_H d mX7_paths Q 11 [] [.int s0] w := by
  exact zm_ireturn dX7_paths_11 rfl k
theorem gX7_deep_0 {d : Nat} {Q : Value → zm_S → Prop} {w : zm_S} {a1 : Int32} {Q' : Value → zm_S → Prop} (hC : zm_C zc_H d mX7_isQuestion [.ref 0, .int a1] w Q') (k : ∀ (r : Int32) (u : zm_S), Q' (.int r) u → zm_T zc_H (d + 1) mX7_deep Q 5 [(0, .ref 0), (1, .int a1)] [.int r] u) : zm_T zc_H (d + 1) mX7_deep Q 0 [(0, .ref 0), (1, .int a1)] [] w := by
  refine zm_aload_n (x := 0) 0 dX7_deep_0 rfl rfl ?_
  refine zm_iload_n (x := a1) 1 dX7_deep_1 rfl rfl ?_
  refine zm_callVz (as := [.int a1]) (rest := []) dX7_deep_2 rfl mtX7_isQuestion lkX7_132 zc_H0 (C := RX7) rfl rfl rfl (Nat.le_of_ble_eq_true rfl) hC rfl (fun r u hq => ?_)
  exact k r u hq
theorem gX7_deep_5 {d : Nat} {Q : Value → zm_S → Prop} {w : zm_S} {a1 : Int32} {s0 : Int32} (kt : ¬ s0 = 0 → zm_T zc_H d mX7_deep Q 11 [(0, .ref 0), (1, .int a1)] [] w) (kf : s0 = 0 → zm_T zc_H d mX7_deep Q 8 [] [] w) : zm_T zc_H d mX7_deep Q 5 [(0, .ref 0), (1, .int a1)] [.int s0] w := by
  refine zm_if_ne 11 dX7_deep_5 (by decide) (fun h => ?_) (fun h => ?_)
  · exact kt h
  · refine zm_sub [] rfl ?_
    exact kf h
theorem gX7_deep_8 {d : Nat} {Q : Value → zm_S → Prop} {w : zm_S} (k : Q (.int (-2 : Int32)) w) : zm_T zc_H d mX7_deep Q 8 [] [] w := by
  refine zm_bipush dX7_deep_8 (v := (-2 : Int32)) (by decide) ?_
  exact zm_ireturn dX7_deep_10 rfl k
theorem gX7_deep_11 {d : Nat} {Q : Value → zm_S → Prop} {w : zm_S} {a1 : Int32} {Q' : Value → zm_S → Prop} (hC : zm_C zc_H d mX7_findStates [.ref 0] w Q') (k : ∀ (u : zm_S), Q' .null u → zm_T zc_H (d + 1) mX7_deep Q 15 [(0, .ref 0), (1, .int a1)] [] u) : zm_T zc_H (d + 1) mX7_deep Q 11 [(0, .ref 0), (1, .int a1)] [] w := by
  refine zm_aload_n (x := 0) 0 dX7_deep_11 rfl rfl ?_
  refine zm_callVv (as := []) (rest := []) dX7_deep_12 rfl mtX7_findStates lkX7_186 zc_H0 (C := RX7) rfl rfl rfl (Nat.le_of_ble_eq_true rfl) hC rfl (fun u hq => ?_)
  exact k u hq
theorem gX7_deep_15 {d : Nat} {Q : Value → zm_S → Prop} {w : zm_S} {a1 : Int32} (k : zm_T zc_H d mX7_deep Q 25 [(0, .ref 0), (1, .int a1), (2, .int (w.1 2 9)), (3, .int (0 : Int32))] [] w) : zm_T zc_H d mX7_deep Q 15 [(0, .ref 0), (1, .int a1)] [] w := by
  refine zm_aload_n (x := 0) 0 dX7_deep_15 rfl rfl ?_
  refine zm_getf (v := .ref 2) (j := 1) dX7_deep_16 clX7 flX7_16 (Nat.le_of_ble_eq_true rfl) zc_H0 rfl rfl ?_
  refine zm_getf (v := .int (w.1 2 9)) (j := 9) dX7_deep_19 clX0 flX7_183 (Nat.le_of_ble_eq_true rfl) zc_H2 rfl rfl ?_
  refine zm_istore_n dX7_deep_22 rfl (Nat.le_of_ble_eq_true rfl) (ls' := [(2, .int (w.1 2 9)), (0, .ref 0), (1, .int a1)]) rfl ?_
  refine zm_iconst dX7_deep_23 (v := (0 : Int32)) (by decide) ?_
  refine zm_istore_n dX7_deep_24 rfl (Nat.le_of_ble_eq_true rfl) (ls' := [(3, .int (0 : Int32)), (2, .int (w.1 2 9)), (0, .ref 0), (1, .int a1)]) rfl ?_
  refine zm_sub [2, 3, 1, 0] rfl ?_
  exact k
theorem gX7_deep_25 {d : Nat} {Q : Value → zm_S → Prop} {w : zm_S} {a1 : Int32} {a2 : Int32} {a3 : Int32} (kt : (w.1 23 7) ≤ a3 → zm_T zc_H d mX7_deep Q 75 [(2, .int a2)] [] w) (kf : ¬ (w.1 23 7) ≤ a3 → zm_T zc_H d mX7_deep Q 36 [(0, .ref 0), (1, .int a1), (2, .int a2), (3, .int a3)] [] w) : zm_T zc_H d mX7_deep Q 25 [(0, .ref 0), (1, .int a1), (2, .int a2), (3, .int a3)] [] w := by
  refine zm_iload_n (x := a3) 3 dX7_deep_25 rfl rfl ?_
  refine zm_aload_n (x := 0) 0 dX7_deep_26 rfl rfl ?_
  refine zm_getf (v := .ref 23) (j := 4) dX7_deep_27 clX7 flX7_37 (Nat.le_of_ble_eq_true rfl) zc_H0 rfl rfl ?_
  refine zm_getf (v := .int (w.1 23 7)) (j := 7) dX7_deep_30 clX6 flX7_189 (Nat.le_of_ble_eq_true rfl) zc_H23 rfl rfl ?_
  refine zm_icmp_ge 75 dX7_deep_33 (by decide) (fun h => ?_) (fun h => ?_)
  · refine zm_sub [2] rfl ?_
    exact kt h
  · exact kf h
theorem gX7_deep_36 {d : Nat} {Q : Value → zm_S → Prop} {w : zm_S} {a1 : Int32} {a2 : Int32} {a3 : Int32} (hi44 : vp_in a3 128) (kt : ((w.1 26 (a3).toNatClampNeg) &&& ((1 : Int32) <<< (a1 &&& 31))) = 0 → zm_T zc_H d mX7_deep Q 69 [(0, .ref 0), (1, .int a1), (2, .int a2), (3, .int a3)] [] w) (kf : ¬ ((w.1 26 (a3).toNatClampNeg) &&& ((1 : Int32) <<< (a1 &&& 31))) = 0 → zm_T zc_H d mX7_deep Q 52 [(0, .ref 0), (1, .int a1), (2, .int a2), (3, .int a3)] [] w) : zm_T zc_H d mX7_deep Q 36 [(0, .ref 0), (1, .int a1), (2, .int a2), (3, .int a3)] [] w := by
  refine zm_aload_n (x := 0) 0 dX7_deep_36 rfl rfl ?_
  refine zm_getf (v := .ref 23) (j := 4) dX7_deep_37 clX7 flX7_37 (Nat.le_of_ble_eq_true rfl) zc_H0 rfl rfl ?_
  refine zm_getf (v := .ref 26) (j := 2) dX7_deep_40 clX6 flX7_190 (Nat.le_of_ble_eq_true rfl) zc_H23 rfl rfl ?_
  refine zm_iload_n (x := a3) 3 dX7_deep_43 rfl rfl ?_
  refine zm_iald dX7_deep_44 zc_H26 hi44 ?_
  refine zm_iconst dX7_deep_45 (v := (1 : Int32)) (by decide) ?_
  refine zm_iload_n (x := a1) 1 dX7_deep_46 rfl rfl ?_
  refine zm_ishl dX7_deep_47 ?_
  refine zm_iand dX7_deep_48 ?_
  refine zm_if_eq 69 dX7_deep_49 (by decide) (fun h => ?_) (fun h => ?_)
  · exact kt h
  · exact kf h
theorem gX7_deep_52 {d : Nat} {Q : Value → zm_S → Prop} {w : zm_S} {a1 : Int32} {a2 : Int32} {a3 : Int32} {Q' : Value → zm_S → Prop} (hi61 : vp_in a3 128) (hC : zm_C zc_H d mJ6_bitCount_0f7a4 [.int (w.1 26 (a3).toNatClampNeg)] w Q') (k : ∀ (r : Int32) (u : zm_S), Q' (.int r) u → zm_T zc_H (d + 1) mX7_deep Q 65 [(0, .ref 0), (1, .int a1), (3, .int a3)] [.int r, .int a2] u) : zm_T zc_H (d + 1) mX7_deep Q 52 [(0, .ref 0), (1, .int a1), (2, .int a2), (3, .int a3)] [] w := by
  refine zm_iload_n (x := a2) 2 dX7_deep_52 rfl rfl ?_
  refine zm_aload_n (x := 0) 0 dX7_deep_53 rfl rfl ?_
  refine zm_getf (v := .ref 23) (j := 4) dX7_deep_54 clX7 flX7_37 (Nat.le_of_ble_eq_true rfl) zc_H0 rfl rfl ?_
  refine zm_getf (v := .ref 26) (j := 2) dX7_deep_57 clX6 flX7_190 (Nat.le_of_ble_eq_true rfl) zc_H23 rfl rfl ?_
  refine zm_iload_n (x := a3) 3 dX7_deep_60 rfl rfl ?_
  refine zm_iald dX7_deep_61 zc_H26 hi61 ?_
  refine zm_callSi (as := [.int (w.1 26 (a3).toNatClampNeg)]) (rest := [.int a2]) dX7_deep_62 rfl mtJ6_bitCount_0f7a4 lkX7_212 rfl (Nat.le_of_ble_eq_true rfl) hC rfl (fun r u hq => ?_)
  refine zm_sub [0, 1, 3] rfl ?_
  exact k r u hq
theorem gX7_deep_65 {d : Nat} {Q : Value → zm_S → Prop} {w : zm_S} {a1 : Int32} {a3 : Int32} {s0 : Int32} {s1 : Int32} (k : zm_T zc_H d mX7_deep Q 69 [(0, .ref 0), (1, .int a1), (2, .int (if s0 < s1 then s0 else s1)), (3, .int a3)] [] w) : zm_T zc_H d mX7_deep Q 65 [(0, .ref 0), (1, .int a1), (3, .int a3)] [.int s0, .int s1] w := by
  refine zm_mmin dX7_deep_65 lkX7_107 zm_mmmin (Nat.le_of_ble_eq_true rfl) ?_
  refine zm_istore_n dX7_deep_68 rfl (Nat.le_of_ble_eq_true rfl) (ls' := [(2, .int (if s0 < s1 then s0 else s1)), (0, .ref 0), (1, .int a1), (3, .int a3)]) rfl ?_
  refine zm_sub [1, 2, 0, 3] rfl ?_
  exact k
theorem gX7_deep_69 {d : Nat} {Q : Value → zm_S → Prop} {w : zm_S} {a1 : Int32} {a2 : Int32} {a3 : Int32} (k : zm_T zc_H d mX7_deep Q 25 [(0, .ref 0), (1, .int a1), (2, .int a2), (3, .int (a3 + (1 : Int32)))] [] w) : zm_T zc_H d mX7_deep Q 69 [(0, .ref 0), (1, .int a1), (2, .int a2), (3, .int a3)] [] w := by
  refine zm_iinc 3 dX7_deep_69 (x := a3) (v := (a3 + (1 : Int32))) rfl rfl (Nat.le_of_ble_eq_true rfl) (ls' := [(3, .int (a3 + (1 : Int32))), (0, .ref 0), (1, .int a1), (2, .int a2)]) rfl ?_
  refine zm_goto 25 dX7_deep_72 (by decide) ?_
  refine zm_sub [1, 2, 3, 0] rfl ?_
  exact k
theorem gX7_deep_75 {d : Nat} {Q : Value → zm_S → Prop} {w : zm_S} {a2 : Int32} (k : Q (.int a2) w) : zm_T zc_H d mX7_deep Q 75 [(2, .int a2)] [] w := by
  refine zm_iload_n (x := a2) 0 dX7_deep_75 rfl rfl ?_
  exact zm_ireturn dX7_deep_76 rfl k
theorem gX7_sure_0 {d : Nat} {Q : Value → zm_S → Prop} {w : zm_S} {a1 : Int32} {a2 : Int32} {a3 : Int32} {Q' : Value → zm_S → Prop} (hC : zm_C zc_H d mX7_within [.int a1, .int (128 : Int32)] w Q') (k : ∀ (r : Int32) (u : zm_S), Q' (.int r) u → zm_T zc_H (d + 1) mX7_sure Q 7 [(0, .ref 0), (1, .int a1), (2, .int a2), (3, .int a3)] [.int r] u) : zm_T zc_H (d + 1) mX7_sure Q 0 [(0, .ref 0), (1, .int a1), (2, .int a2), (3, .int a3)] [] w := by
  refine zm_iload_n (x := a1) 1 dX7_sure_0 rfl rfl ?_
  refine zm_sipush dX7_sure_1 (v := (128 : Int32)) (by decide) ?_
  refine zm_callSz (as := [.int a1, .int (128 : Int32)]) (rest := []) dX7_sure_4 rfl mtX7_within lkX7_62 rfl (Nat.le_of_ble_eq_true rfl) hC rfl (fun r u hq => ?_)
  exact k r u hq
theorem gX7_sure_7 {d : Nat} {Q : Value → zm_S → Prop} {w : zm_S} {a1 : Int32} {a2 : Int32} {a3 : Int32} {s0 : Int32} (kt : s0 = 0 → zm_T zc_H d mX7_sure Q 28 [] [] w) (kf : ¬ s0 = 0 → zm_T zc_H d mX7_sure Q 10 [(0, .ref 0), (1, .int a1), (2, .int a2), (3, .int a3)] [] w) : zm_T zc_H d mX7_sure Q 7 [(0, .ref 0), (1, .int a1), (2, .int a2), (3, .int a3)] [.int s0] w := by
  refine zm_if_eq 28 dX7_sure_7 (by decide) (fun h => ?_) (fun h => ?_)
  · refine zm_sub [] rfl ?_
    exact kt h
  · exact kf h
theorem gX7_sure_10 {d : Nat} {Q : Value → zm_S → Prop} {w : zm_S} {a1 : Int32} {a2 : Int32} {a3 : Int32} {Q' : Value → zm_S → Prop} (hC : zm_C zc_H d mX7_within [.int a2, .int (128 : Int32)] w Q') (k : ∀ (r : Int32) (u : zm_S), Q' (.int r) u → zm_T zc_H (d + 1) mX7_sure Q 17 [(0, .ref 0), (1, .int a1), (2, .int a2), (3, .int a3)] [.int r] u) : zm_T zc_H (d + 1) mX7_sure Q 10 [(0, .ref 0), (1, .int a1), (2, .int a2), (3, .int a3)] [] w := by
  refine zm_iload_n (x := a2) 2 dX7_sure_10 rfl rfl ?_
  refine zm_sipush dX7_sure_11 (v := (128 : Int32)) (by decide) ?_
  refine zm_callSz (as := [.int a2, .int (128 : Int32)]) (rest := []) dX7_sure_14 rfl mtX7_within lkX7_62 rfl (Nat.le_of_ble_eq_true rfl) hC rfl (fun r u hq => ?_)
  exact k r u hq
theorem gX7_sure_17 {d : Nat} {Q : Value → zm_S → Prop} {w : zm_S} {a1 : Int32} {a2 : Int32} {a3 : Int32} {s0 : Int32} (kt : s0 = 0 → zm_T zc_H d mX7_sure Q 28 [] [] w) (kf : ¬ s0 = 0 → zm_T zc_H d mX7_sure Q 20 [(0, .ref 0), (1, .int a1), (2, .int a2), (3, .int a3)] [] w) : zm_T zc_H d mX7_sure Q 17 [(0, .ref 0), (1, .int a1), (2, .int a2), (3, .int a3)] [.int s0] w := by
  refine zm_if_eq 28 dX7_sure_17 (by decide) (fun h => ?_) (fun h => ?_)
  · refine zm_sub [] rfl ?_
    exact kt h
  · exact kf h
theorem gX7_sure_20 {d : Nat} {Q : Value → zm_S → Prop} {w : zm_S} {a1 : Int32} {a2 : Int32} {a3 : Int32} {Q' : Value → zm_S → Prop} (hC : zm_C zc_H d mX7_within [.int a3, .int (2 : Int32)] w Q') (k : ∀ (r : Int32) (u : zm_S), Q' (.int r) u → zm_T zc_H (d + 1) mX7_sure Q 25 [(0, .ref 0), (1, .int a1), (2, .int a2), (3, .int a3)] [.int r] u) : zm_T zc_H (d + 1) mX7_sure Q 20 [(0, .ref 0), (1, .int a1), (2, .int a2), (3, .int a3)] [] w := by
  refine zm_iload_n (x := a3) 3 dX7_sure_20 rfl rfl ?_
  refine zm_iconst dX7_sure_21 (v := (2 : Int32)) (by decide) ?_
  refine zm_callSz (as := [.int a3, .int (2 : Int32)]) (rest := []) dX7_sure_22 rfl mtX7_within lkX7_62 rfl (Nat.le_of_ble_eq_true rfl) hC rfl (fun r u hq => ?_)
  exact k r u hq
theorem gX7_sure_25 {d : Nat} {Q : Value → zm_S → Prop} {w : zm_S} {a1 : Int32} {a2 : Int32} {a3 : Int32} {s0 : Int32} (kt : ¬ s0 = 0 → zm_T zc_H d mX7_sure Q 31 [(0, .ref 0), (1, .int a1), (2, .int a2), (3, .int a3)] [] w) (kf : s0 = 0 → zm_T zc_H d mX7_sure Q 28 [] [] w) : zm_T zc_H d mX7_sure Q 25 [(0, .ref 0), (1, .int a1), (2, .int a2), (3, .int a3)] [.int s0] w := by
  refine zm_if_ne 31 dX7_sure_25 (by decide) (fun h => ?_) (fun h => ?_)
  · exact kt h
  · refine zm_sub [] rfl ?_
    exact kf h
theorem gX7_sure_28 {d : Nat} {Q : Value → zm_S → Prop} {w : zm_S} (k : Q (.int (-2 : Int32)) w) : zm_T zc_H d mX7_sure Q 28 [] [] w := by
  refine zm_bipush dX7_sure_28 (v := (-2 : Int32)) (by decide) ?_
  exact zm_ireturn dX7_sure_30 rfl k
theorem gX7_sure_31 {d : Nat} {Q : Value → zm_S → Prop} {w : zm_S} {a1 : Int32} {a2 : Int32} {a3 : Int32} {Q' : Value → zm_S → Prop} (hC : zm_C zc_H d mX7_findStates [.ref 0] w Q') (k : ∀ (u : zm_S), Q' .null u → zm_T zc_H (d + 1) mX7_sure Q 35 [(0, .ref 0), (1, .int a1), (2, .int a2), (3, .int a3)] [] u) : zm_T zc_H (d + 1) mX7_sure Q 31 [(0, .ref 0), (1, .int a1), (2, .int a2), (3, .int a3)] [] w := by
  refine zm_aload_n (x := 0) 0 dX7_sure_31 rfl rfl ?_
  refine zm_callVv (as := []) (rest := []) dX7_sure_32 rfl mtX7_findStates lkX7_186 zc_H0 (C := RX7) rfl rfl rfl (Nat.le_of_ble_eq_true rfl) hC rfl (fun u hq => ?_)
  exact k u hq
theorem gX7_sure_35 {d : Nat} {Q : Value → zm_S → Prop} {w : zm_S} {a1 : Int32} {a2 : Int32} {a3 : Int32} {Q' : Value → zm_S → Prop} (hC : zm_C zc_H d mX1_begin [.ref 28, .ref 23, .int (a1 &&& (w.1 23 6)), .int (a2 &&& (w.1 23 6))] w Q') (k : ∀ (r : Int32) (u : zm_S), Q' (.int r) u → zm_T zc_H (d + 1) mX7_sure Q 64 [(0, .ref 0), (3, .int a3)] [.int r] u) : zm_T zc_H (d + 1) mX7_sure Q 35 [(0, .ref 0), (1, .int a1), (2, .int a2), (3, .int a3)] [] w := by
  refine zm_aload_n (x := 0) 0 dX7_sure_35 rfl rfl ?_
  refine zm_getf (v := .ref 28) (j := 5) dX7_sure_36 clX7 flX7_44 (Nat.le_of_ble_eq_true rfl) zc_H0 rfl rfl ?_
  refine zm_aload_n (x := 0) 0 dX7_sure_39 rfl rfl ?_
  refine zm_getf (v := .ref 23) (j := 4) dX7_sure_40 clX7 flX7_37 (Nat.le_of_ble_eq_true rfl) zc_H0 rfl rfl ?_
  refine zm_iload_n (x := a1) 1 dX7_sure_43 rfl rfl ?_
  refine zm_aload_n (x := 0) 0 dX7_sure_44 rfl rfl ?_
  refine zm_getf (v := .ref 23) (j := 4) dX7_sure_45 clX7 flX7_37 (Nat.le_of_ble_eq_true rfl) zc_H0 rfl rfl ?_
  refine zm_getf (v := .int (w.1 23 6)) (j := 6) dX7_sure_48 clX6 flX7_199 (Nat.le_of_ble_eq_true rfl) zc_H23 rfl rfl ?_
  refine zm_iand dX7_sure_51 ?_
  refine zm_iload_n (x := a2) 2 dX7_sure_52 rfl rfl ?_
  refine zm_aload_n (x := 0) 0 dX7_sure_53 rfl rfl ?_
  refine zm_getf (v := .ref 23) (j := 4) dX7_sure_54 clX7 flX7_37 (Nat.le_of_ble_eq_true rfl) zc_H0 rfl rfl ?_
  refine zm_getf (v := .int (w.1 23 6)) (j := 6) dX7_sure_57 clX6 flX7_199 (Nat.le_of_ble_eq_true rfl) zc_H23 rfl rfl ?_
  refine zm_iand dX7_sure_60 ?_
  refine zm_callVi (as := [.ref 23, .int (a1 &&& (w.1 23 6)), .int (a2 &&& (w.1 23 6))]) (rest := []) dX7_sure_61 rfl mtX1_begin lkX7_217 zc_H28 (C := RX1) rfl rfl rfl (Nat.le_of_ble_eq_true rfl) hC rfl (fun r u hq => ?_)
  refine zm_sub [0, 3] rfl ?_
  exact k r u hq
theorem gX7_sure_64 {d : Nat} {Q : Value → zm_S → Prop} {w : zm_S} {a3 : Int32} {s0 : Int32} (kt : ¬ s0 = 0 → zm_T zc_H d mX7_sure Q 74 [(0, .ref 0), (3, .int a3), (4, .int s0)] [] w) (kf : s0 = 0 → zm_T zc_H d mX7_sure Q 71 [] [] w) : zm_T zc_H d mX7_sure Q 64 [(0, .ref 0), (3, .int a3)] [.int s0] w := by
  refine zm_istore dX7_sure_64 (Nat.le_of_ble_eq_true rfl) (ls' := [(4, .int s0), (0, .ref 0), (3, .int a3)]) rfl ?_
  refine zm_iload (x := s0) 0 dX7_sure_66 rfl ?_
  refine zm_if_ne 74 dX7_sure_68 (by decide) (fun h => ?_) (fun h => ?_)
  · refine zm_sub [1, 2, 0] rfl ?_
    exact kt h
  · refine zm_sub [] rfl ?_
    exact kf h
theorem gX7_sure_71 {d : Nat} {Q : Value → zm_S → Prop} {w : zm_S} (k : Q (.int (-3 : Int32)) w) : zm_T zc_H d mX7_sure Q 71 [] [] w := by
  refine zm_bipush dX7_sure_71 (v := (-3 : Int32)) (by decide) ?_
  exact zm_ireturn dX7_sure_73 rfl k
theorem gX7_sure_74 {d : Nat} {Q : Value → zm_S → Prop} {w : zm_S} {a3 : Int32} {a4 : Int32} (kt : a4 ≤ (14 : Int32) → zm_T zc_H d mX7_sure Q 84 [(0, .ref 0), (3, .int a3)] [] w) (kf : ¬ a4 ≤ (14 : Int32) → zm_T zc_H d mX7_sure Q 81 [] [] w) : zm_T zc_H d mX7_sure Q 74 [(0, .ref 0), (3, .int a3), (4, .int a4)] [] w := by
  refine zm_iload (x := a4) 2 dX7_sure_74 rfl ?_
  refine zm_bipush dX7_sure_76 (v := (14 : Int32)) (by decide) ?_
  refine zm_icmp_le 84 dX7_sure_78 (by decide) (fun h => ?_) (fun h => ?_)
  · refine zm_sub [0, 1] rfl ?_
    exact kt h
  · refine zm_sub [] rfl ?_
    exact kf h
theorem gX7_sure_81 {d : Nat} {Q : Value → zm_S → Prop} {w : zm_S} (k : Q (.int (-4 : Int32)) w) : zm_T zc_H d mX7_sure Q 81 [] [] w := by
  refine zm_bipush dX7_sure_81 (v := (-4 : Int32)) (by decide) ?_
  exact zm_ireturn dX7_sure_83 rfl k
theorem gX7_sure_84 {d : Nat} {Q : Value → zm_S → Prop} {w : zm_S} {a3 : Int32} {Q' : Value → zm_S → Prop} (hC : zm_C zc_H d mX1_fewest [.ref 28] w Q') (k : ∀ (r : Int32) (u : zm_S), Q' (.int r) u → zm_T zc_H (d + 1) mX7_sure Q 91 [(0, .ref 0), (3, .int a3)] [.int r] u) : zm_T zc_H (d + 1) mX7_sure Q 84 [(0, .ref 0), (3, .int a3)] [] w := by
  refine zm_aload_n (x := 0) 0 dX7_sure_84 rfl rfl ?_
  refine zm_getf (v := .ref 28) (j := 5) dX7_sure_85 clX7 flX7_44 (Nat.le_of_ble_eq_true rfl) zc_H0 rfl rfl ?_
  refine zm_callVi (as := []) (rest := []) dX7_sure_88 rfl mtX1_fewest lkX7_221 zc_H28 (C := RX1) rfl rfl rfl (Nat.le_of_ble_eq_true rfl) hC rfl (fun r u hq => ?_)
  exact k r u hq
theorem gX7_sure_91 {d : Nat} {Q : Value → zm_S → Prop} {w : zm_S} {a3 : Int32} {s0 : Int32} (kt : ¬ a3 = 0 → zm_T zc_H d mX7_sure Q 102 [(0, .ref 0), (5, .int s0)] [] w) (kf : a3 = 0 → zm_T zc_H d mX7_sure Q 97 [(5, .int s0)] [] w) : zm_T zc_H d mX7_sure Q 91 [(0, .ref 0), (3, .int a3)] [.int s0] w := by
  refine zm_istore dX7_sure_91 (Nat.le_of_ble_eq_true rfl) (ls' := [(5, .int s0), (0, .ref 0), (3, .int a3)]) rfl ?_
  refine zm_iload_n (x := a3) 2 dX7_sure_93 rfl rfl ?_
  refine zm_if_ne 102 dX7_sure_94 (by decide) (fun h => ?_) (fun h => ?_)
  · refine zm_sub [1, 0] rfl ?_
    exact kt h
  · refine zm_sub [0] rfl ?_
    exact kf h
theorem gX7_sure_97 {d : Nat} {Q : Value → zm_S → Prop} {w : zm_S} {a5 : Int32} (k : zm_T zc_H d mX7_sure Q 111 [] [.int a5] w) : zm_T zc_H d mX7_sure Q 97 [(5, .int a5)] [] w := by
  refine zm_iload (x := a5) 0 dX7_sure_97 rfl ?_
  refine zm_goto 111 dX7_sure_99 (by decide) ?_
  refine zm_sub [] rfl ?_
  exact k
theorem gX7_sure_102 {d : Nat} {Q : Value → zm_S → Prop} {w : zm_S} {a5 : Int32} {Q' : Value → zm_S → Prop} (hC : zm_C zc_H d mX1_first [.ref 28, .int a5] w Q') (k : ∀ (r : Int32) (u : zm_S), Q' (.int r) u → zm_T zc_H (d + 1) mX7_sure Q 111 [] [.int r] u) : zm_T zc_H (d + 1) mX7_sure Q 102 [(0, .ref 0), (5, .int a5)] [] w := by
  refine zm_aload_n (x := 0) 0 dX7_sure_102 rfl rfl ?_
  refine zm_getf (v := .ref 28) (j := 5) dX7_sure_103 clX7 flX7_44 (Nat.le_of_ble_eq_true rfl) zc_H0 rfl rfl ?_
  refine zm_iload (x := a5) 1 dX7_sure_106 rfl ?_
  refine zm_callVi (as := [.int a5]) (rest := []) dX7_sure_108 rfl mtX1_first lkX7_224 zc_H28 (C := RX1) rfl rfl rfl (Nat.le_of_ble_eq_true rfl) hC rfl (fun r u hq => ?_)
  refine zm_sub [] rfl ?_
  exact k r u hq
theorem gX7_sure_111 {d : Nat} {Q : Value → zm_S → Prop} {w : zm_S} {s0 : Int32} (k : Q (.int s0) w) : zm_T zc_H d mX7_sure Q 111 [] [.int s0] w := by
  exact zm_ireturn dX7_sure_111 rfl k
theorem gX7_chance_0 {d : Nat} {Q : Value → zm_S → Prop} {w : zm_S} {a1 : Int32} {a2 : Int32} {a3 : Int32} {a4 : Int32} {a5 : Int32} {Q' : Value → zm_S → Prop} (hC : zm_C zc_H d mX7_chanceFits [.int a1, .int a2, .int a3, .int a4] w Q') (k : ∀ (r : Int32) (u : zm_S), Q' (.int r) u → zm_T zc_H (d + 1) mX7_chance Q 8 [(0, .ref 0), (1, .int a1), (2, .int a2), (3, .int a3), (4, .int a4), (5, .int a5)] [.int r] u) : zm_T zc_H (d + 1) mX7_chance Q 0 [(0, .ref 0), (1, .int a1), (2, .int a2), (3, .int a3), (4, .int a4), (5, .int a5)] [] w := by
  refine zm_iload_n (x := a1) 1 dX7_chance_0 rfl rfl ?_
  refine zm_iload_n (x := a2) 2 dX7_chance_1 rfl rfl ?_
  refine zm_iload_n (x := a3) 3 dX7_chance_2 rfl rfl ?_
  refine zm_iload (x := a4) 4 dX7_chance_3 rfl ?_
  refine zm_callSz (as := [.int a1, .int a2, .int a3, .int a4]) (rest := []) dX7_chance_5 rfl mtX7_chanceFits lkX7_227 rfl (Nat.le_of_ble_eq_true rfl) hC rfl (fun r u hq => ?_)
  exact k r u hq
theorem gX7_chance_8 {d : Nat} {Q : Value → zm_S → Prop} {w : zm_S} {a1 : Int32} {a2 : Int32} {a3 : Int32} {a4 : Int32} {a5 : Int32} {s0 : Int32} (kt : s0 = 0 → zm_T zc_H d mX7_chance Q 20 [] [] w) (kf : ¬ s0 = 0 → zm_T zc_H d mX7_chance Q 11 [(0, .ref 0), (1, .int a1), (2, .int a2), (3, .int a3), (4, .int a4), (5, .int a5)] [] w) : zm_T zc_H d mX7_chance Q 8 [(0, .ref 0), (1, .int a1), (2, .int a2), (3, .int a3), (4, .int a4), (5, .int a5)] [.int s0] w := by
  refine zm_if_eq 20 dX7_chance_8 (by decide) (fun h => ?_) (fun h => ?_)
  · refine zm_sub [] rfl ?_
    exact kt h
  · exact kf h
theorem gX7_chance_11 {d : Nat} {Q : Value → zm_S → Prop} {w : zm_S} {a1 : Int32} {a2 : Int32} {a3 : Int32} {a4 : Int32} {a5 : Int32} {Q' : Value → zm_S → Prop} (hC : zm_C zc_H d mX7_within [.int a5, .int (2 : Int32)] w Q') (k : ∀ (r : Int32) (u : zm_S), Q' (.int r) u → zm_T zc_H (d + 1) mX7_chance Q 17 [(0, .ref 0), (1, .int a1), (2, .int a2), (3, .int a3), (4, .int a4), (5, .int a5)] [.int r] u) : zm_T zc_H (d + 1) mX7_chance Q 11 [(0, .ref 0), (1, .int a1), (2, .int a2), (3, .int a3), (4, .int a4), (5, .int a5)] [] w := by
  refine zm_iload (x := a5) 5 dX7_chance_11 rfl ?_
  refine zm_iconst dX7_chance_13 (v := (2 : Int32)) (by decide) ?_
  refine zm_callSz (as := [.int a5, .int (2 : Int32)]) (rest := []) dX7_chance_14 rfl mtX7_within lkX7_62 rfl (Nat.le_of_ble_eq_true rfl) hC rfl (fun r u hq => ?_)
  exact k r u hq
theorem gX7_chance_17 {d : Nat} {Q : Value → zm_S → Prop} {w : zm_S} {a1 : Int32} {a2 : Int32} {a3 : Int32} {a4 : Int32} {a5 : Int32} {s0 : Int32} (kt : ¬ s0 = 0 → zm_T zc_H d mX7_chance Q 26 [(0, .ref 0), (1, .int a1), (2, .int a2), (3, .int a3), (4, .int a4), (5, .int a5)] [] w) (kf : s0 = 0 → zm_T zc_H d mX7_chance Q 20 [] [] w) : zm_T zc_H d mX7_chance Q 17 [(0, .ref 0), (1, .int a1), (2, .int a2), (3, .int a3), (4, .int a4), (5, .int a5)] [.int s0] w := by
  refine zm_if_ne 26 dX7_chance_17 (by decide) (fun h => ?_) (fun h => ?_)
  · exact kt h
  · refine zm_sub [] rfl ?_
    exact kf h
theorem gX7_chance_20 {d : Nat} {Q : Value → zm_S → Prop} {w : zm_S} {Q' : Value → zm_S → Prop} (hC : zm_C zc_H d mX7_refusal [.int (-2 : Int32)] w Q') (k : ∀ (r : Int64) (u : zm_S), Q' (.long r) u → zm_T zc_H (d + 1) mX7_chance Q 25 [] [.long r] u) : zm_T zc_H (d + 1) mX7_chance Q 20 [] [] w := by
  refine zm_bipush dX7_chance_20 (v := (-2 : Int32)) (by decide) ?_
  refine zm_callSl (as := [.int (-2 : Int32)]) (rest := []) dX7_chance_22 rfl mtX7_refusal lkX7_165 rfl (Nat.le_of_ble_eq_true rfl) hC rfl (fun r u hq => ?_)
  exact k r u hq
theorem gX7_chance_25 {d : Nat} {Q : Value → zm_S → Prop} {w : zm_S} {s0 : Int64} (k : Q (.long s0) w) : zm_T zc_H d mX7_chance Q 25 [] [.long s0] w := by
  exact zm_lreturn dX7_chance_25 rfl k
theorem gX7_chance_26 {d : Nat} {Q : Value → zm_S → Prop} {w : zm_S} {a1 : Int32} {a2 : Int32} {a3 : Int32} {a4 : Int32} {a5 : Int32} {Q' : Value → zm_S → Prop} (hC : zm_C zc_H d mX0_chanceAbove [.ref 2, .int a1, .int a2, .int a3, .int a4] w Q') (k : ∀ (r : Int64) (u : zm_S), Q' (.long r) u → zm_T zc_H (d + 1) mX7_chance Q 38 [(0, .ref 0), (1, .int a1), (5, .int a5)] [.long r] u) : zm_T zc_H (d + 1) mX7_chance Q 26 [(0, .ref 0), (1, .int a1), (2, .int a2), (3, .int a3), (4, .int a4), (5, .int a5)] [] w := by
  refine zm_aload_n (x := 0) 0 dX7_chance_26 rfl rfl ?_
  refine zm_getf (v := .ref 2) (j := 1) dX7_chance_27 clX7 flX7_16 (Nat.le_of_ble_eq_true rfl) zc_H0 rfl rfl ?_
  refine zm_iload_n (x := a1) 1 dX7_chance_30 rfl rfl ?_
  refine zm_iload_n (x := a2) 2 dX7_chance_31 rfl rfl ?_
  refine zm_iload_n (x := a3) 3 dX7_chance_32 rfl rfl ?_
  refine zm_iload (x := a4) 4 dX7_chance_33 rfl ?_
  refine zm_callVl (as := [.int a1, .int a2, .int a3, .int a4]) (rest := []) dX7_chance_35 rfl mtX0_chanceAbove lkX7_231 zc_H2 (C := RX0) rfl rfl rfl (Nat.le_of_ble_eq_true rfl) hC rfl (fun r u hq => ?_)
  refine zm_sub [0, 1, 5] rfl ?_
  exact k r u hq
theorem gX7_chance_38 {d : Nat} {Q : Value → zm_S → Prop} {w : zm_S} {a1 : Int32} {a5 : Int32} {s0 : Int64} {Q' : Value → zm_S → Prop} (hC : zm_C zc_H d mX0_chanceBelow [.ref 2, .int a1] w Q') (k : ∀ (r : Int64) (u : zm_S), Q' (.long r) u → zm_T zc_H (d + 1) mX7_chance Q 46 [(5, .int a5)] [.long r, .long s0] u) : zm_T zc_H (d + 1) mX7_chance Q 38 [(0, .ref 0), (1, .int a1), (5, .int a5)] [.long s0] w := by
  refine zm_aload_n (x := 0) 0 dX7_chance_38 rfl rfl ?_
  refine zm_getf (v := .ref 2) (j := 1) dX7_chance_39 clX7 flX7_16 (Nat.le_of_ble_eq_true rfl) zc_H0 rfl rfl ?_
  refine zm_iload_n (x := a1) 1 dX7_chance_42 rfl rfl ?_
  refine zm_callVl (as := [.int a1]) (rest := [.long s0]) dX7_chance_43 rfl mtX0_chanceBelow lkX7_235 zc_H2 (C := RX0) rfl rfl rfl (Nat.le_of_ble_eq_true rfl) hC rfl (fun r u hq => ?_)
  refine zm_sub [2] rfl ?_
  exact k r u hq
theorem gX7_chance_46 {d : Nat} {Q : Value → zm_S → Prop} {w : zm_S} {a5 : Int32} {s0 : Int64} {s1 : Int64} {Q' : Value → zm_S → Prop} (hC : zm_C zc_H d mX7_lowestTerm [.long s1, .long s0, .int a5] w Q') (k : ∀ (r : Int64) (u : zm_S), Q' (.long r) u → zm_T zc_H (d + 1) mX7_chance Q 51 [] [.long r] u) : zm_T zc_H (d + 1) mX7_chance Q 46 [(5, .int a5)] [.long s0, .long s1] w := by
  refine zm_iload (x := a5) 0 dX7_chance_46 rfl ?_
  refine zm_callSl (as := [.long s1, .long s0, .int a5]) (rest := []) dX7_chance_48 rfl mtX7_lowestTerm lkX7_176 rfl (Nat.le_of_ble_eq_true rfl) hC rfl (fun r u hq => ?_)
  refine zm_sub [] rfl ?_
  exact k r u hq
theorem gX7_chance_51 {d : Nat} {Q : Value → zm_S → Prop} {w : zm_S} {s0 : Int64} (k : Q (.long s0) w) : zm_T zc_H d mX7_chance Q 51 [] [.long s0] w := by
  exact zm_lreturn dX7_chance_51 rfl k
theorem gX7_share_0 {d : Nat} {Q : Value → zm_S → Prop} {w : zm_S} {a1 : Int32} {a2 : Int32} {a3 : Int32} {a4 : Int32} {a5 : Int32} {Q' : Value → zm_S → Prop} (hC : zm_C zc_H d mX7_chanceFits [.int a1, .int a2, .int a3, .int a4] w Q') (k : ∀ (r : Int32) (u : zm_S), Q' (.int r) u → zm_T zc_H (d + 1) mX7_share Q 8 [(0, .ref 0), (1, .int a1), (2, .int a2), (3, .int a3), (4, .int a4), (5, .int a5)] [.int r] u) : zm_T zc_H (d + 1) mX7_share Q 0 [(0, .ref 0), (1, .int a1), (2, .int a2), (3, .int a3), (4, .int a4), (5, .int a5)] [] w := by
  refine zm_iload_n (x := a1) 1 dX7_share_0 rfl rfl ?_
  refine zm_iload_n (x := a2) 2 dX7_share_1 rfl rfl ?_
  refine zm_iload_n (x := a3) 3 dX7_share_2 rfl rfl ?_
  refine zm_iload (x := a4) 4 dX7_share_3 rfl ?_
  refine zm_callSz (as := [.int a1, .int a2, .int a3, .int a4]) (rest := []) dX7_share_5 rfl mtX7_chanceFits lkX7_227 rfl (Nat.le_of_ble_eq_true rfl) hC rfl (fun r u hq => ?_)
  exact k r u hq
theorem gX7_share_8 {d : Nat} {Q : Value → zm_S → Prop} {w : zm_S} {a1 : Int32} {a2 : Int32} {a3 : Int32} {a4 : Int32} {a5 : Int32} {s0 : Int32} (kt : s0 = 0 → zm_T zc_H d mX7_share Q 20 [] [] w) (kf : ¬ s0 = 0 → zm_T zc_H d mX7_share Q 11 [(0, .ref 0), (1, .int a1), (2, .int a2), (3, .int a3), (4, .int a4), (5, .int a5)] [] w) : zm_T zc_H d mX7_share Q 8 [(0, .ref 0), (1, .int a1), (2, .int a2), (3, .int a3), (4, .int a4), (5, .int a5)] [.int s0] w := by
  refine zm_if_eq 20 dX7_share_8 (by decide) (fun h => ?_) (fun h => ?_)
  · refine zm_sub [] rfl ?_
    exact kt h
  · exact kf h
theorem gX7_share_11 {d : Nat} {Q : Value → zm_S → Prop} {w : zm_S} {a1 : Int32} {a2 : Int32} {a3 : Int32} {a4 : Int32} {a5 : Int32} {Q' : Value → zm_S → Prop} (hC : zm_C zc_H d mX7_within [.int a5, .int (2 : Int32)] w Q') (k : ∀ (r : Int32) (u : zm_S), Q' (.int r) u → zm_T zc_H (d + 1) mX7_share Q 17 [(0, .ref 0), (1, .int a1), (2, .int a2), (3, .int a3), (4, .int a4), (5, .int a5)] [.int r] u) : zm_T zc_H (d + 1) mX7_share Q 11 [(0, .ref 0), (1, .int a1), (2, .int a2), (3, .int a3), (4, .int a4), (5, .int a5)] [] w := by
  refine zm_iload (x := a5) 5 dX7_share_11 rfl ?_
  refine zm_iconst dX7_share_13 (v := (2 : Int32)) (by decide) ?_
  refine zm_callSz (as := [.int a5, .int (2 : Int32)]) (rest := []) dX7_share_14 rfl mtX7_within lkX7_62 rfl (Nat.le_of_ble_eq_true rfl) hC rfl (fun r u hq => ?_)
  exact k r u hq
theorem gX7_share_17 {d : Nat} {Q : Value → zm_S → Prop} {w : zm_S} {a1 : Int32} {a2 : Int32} {a3 : Int32} {a4 : Int32} {a5 : Int32} {s0 : Int32} (kt : ¬ s0 = 0 → zm_T zc_H d mX7_share Q 26 [(0, .ref 0), (1, .int a1), (2, .int a2), (3, .int a3), (4, .int a4), (5, .int a5)] [] w) (kf : s0 = 0 → zm_T zc_H d mX7_share Q 20 [] [] w) : zm_T zc_H d mX7_share Q 17 [(0, .ref 0), (1, .int a1), (2, .int a2), (3, .int a3), (4, .int a4), (5, .int a5)] [.int s0] w := by
  refine zm_if_ne 26 dX7_share_17 (by decide) (fun h => ?_) (fun h => ?_)
  · exact kt h
  · refine zm_sub [] rfl ?_
    exact kf h
theorem gX7_share_20 {d : Nat} {Q : Value → zm_S → Prop} {w : zm_S} {Q' : Value → zm_S → Prop} (hC : zm_C zc_H d mX7_refusal [.int (-2 : Int32)] w Q') (k : ∀ (r : Int64) (u : zm_S), Q' (.long r) u → zm_T zc_H (d + 1) mX7_share Q 25 [] [.long r] u) : zm_T zc_H (d + 1) mX7_share Q 20 [] [] w := by
  refine zm_bipush dX7_share_20 (v := (-2 : Int32)) (by decide) ?_
  refine zm_callSl (as := [.int (-2 : Int32)]) (rest := []) dX7_share_22 rfl mtX7_refusal lkX7_165 rfl (Nat.le_of_ble_eq_true rfl) hC rfl (fun r u hq => ?_)
  exact k r u hq
theorem gX7_share_25 {d : Nat} {Q : Value → zm_S → Prop} {w : zm_S} {s0 : Int64} (k : Q (.long s0) w) : zm_T zc_H d mX7_share Q 25 [] [.long s0] w := by
  exact zm_lreturn dX7_share_25 rfl k
theorem gX7_share_26 {d : Nat} {Q : Value → zm_S → Prop} {w : zm_S} {a1 : Int32} {a2 : Int32} {a3 : Int32} {a4 : Int32} {a5 : Int32} {Q' : Value → zm_S → Prop} (hC : zm_C zc_H d mX7_findStates [.ref 0] w Q') (k : ∀ (u : zm_S), Q' .null u → zm_T zc_H (d + 1) mX7_share Q 30 [(0, .ref 0), (1, .int a1), (2, .int a2), (3, .int a3), (4, .int a4), (5, .int a5)] [] u) : zm_T zc_H (d + 1) mX7_share Q 26 [(0, .ref 0), (1, .int a1), (2, .int a2), (3, .int a3), (4, .int a4), (5, .int a5)] [] w := by
  refine zm_aload_n (x := 0) 0 dX7_share_26 rfl rfl ?_
  refine zm_callVv (as := []) (rest := []) dX7_share_27 rfl mtX7_findStates lkX7_186 zc_H0 (C := RX7) rfl rfl rfl (Nat.le_of_ble_eq_true rfl) hC rfl (fun u hq => ?_)
  exact k u hq
theorem gX7_share_30 {d : Nat} {Q : Value → zm_S → Prop} {w : zm_S} {a1 : Int32} {a2 : Int32} {a3 : Int32} {a4 : Int32} {a5 : Int32} (hi50 : vp_in (a2 &&& (w.1 23 6)) 128) (kt : ¬ (w.1 25 ((a2 &&& (w.1 23 6))).toNatClampNeg) = 0 → zm_T zc_H d mX7_share Q 60 [(0, .ref 0), (1, .int a1), (3, .int a3), (4, .int a4), (5, .int a5), (6, .int (a2 &&& (w.1 23 6)))] [] w) (kf : (w.1 25 ((a2 &&& (w.1 23 6))).toNatClampNeg) = 0 → zm_T zc_H d mX7_share Q 54 [] [] w) : zm_T zc_H d mX7_share Q 30 [(0, .ref 0), (1, .int a1), (2, .int a2), (3, .int a3), (4, .int a4), (5, .int a5)] [] w := by
  refine zm_iload_n (x := a2) 2 dX7_share_30 rfl rfl ?_
  refine zm_aload_n (x := 0) 0 dX7_share_31 rfl rfl ?_
  refine zm_getf (v := .ref 23) (j := 4) dX7_share_32 clX7 flX7_37 (Nat.le_of_ble_eq_true rfl) zc_H0 rfl rfl ?_
  refine zm_getf (v := .int (w.1 23 6)) (j := 6) dX7_share_35 clX6 flX7_199 (Nat.le_of_ble_eq_true rfl) zc_H23 rfl rfl ?_
  refine zm_iand dX7_share_38 ?_
  refine zm_istore dX7_share_39 (Nat.le_of_ble_eq_true rfl) (ls' := [(6, .int (a2 &&& (w.1 23 6))), (0, .ref 0), (1, .int a1), (2, .int a2), (3, .int a3), (4, .int a4), (5, .int a5)]) rfl ?_
  refine zm_aload_n (x := 0) 1 dX7_share_41 rfl rfl ?_
  refine zm_getf (v := .ref 23) (j := 4) dX7_share_42 clX7 flX7_37 (Nat.le_of_ble_eq_true rfl) zc_H0 rfl rfl ?_
  refine zm_getf (v := .ref 25) (j := 1) dX7_share_45 clX6 flX7_202 (Nat.le_of_ble_eq_true rfl) zc_H23 rfl rfl ?_
  refine zm_iload (x := (a2 &&& (w.1 23 6))) 0 dX7_share_48 rfl ?_
  refine zm_zald dX7_share_50 zc_H25 hi50 ?_
  refine zm_if_ne 60 dX7_share_51 (by decide) (fun h => ?_) (fun h => ?_)
  · refine zm_sub [1, 2, 4, 5, 6, 0] rfl ?_
    exact kt h
  · refine zm_sub [] rfl ?_
    exact kf h
theorem gX7_share_54 {d : Nat} {Q : Value → zm_S → Prop} {w : zm_S} {Q' : Value → zm_S → Prop} (hC : zm_C zc_H d mX7_refusal [.int (-2 : Int32)] w Q') (k : ∀ (r : Int64) (u : zm_S), Q' (.long r) u → zm_T zc_H (d + 1) mX7_share Q 59 [] [.long r] u) : zm_T zc_H (d + 1) mX7_share Q 54 [] [] w := by
  refine zm_bipush dX7_share_54 (v := (-2 : Int32)) (by decide) ?_
  refine zm_callSl (as := [.int (-2 : Int32)]) (rest := []) dX7_share_56 rfl mtX7_refusal lkX7_165 rfl (Nat.le_of_ble_eq_true rfl) hC rfl (fun r u hq => ?_)
  exact k r u hq
theorem gX7_share_59 {d : Nat} {Q : Value → zm_S → Prop} {w : zm_S} {s0 : Int64} (k : Q (.long s0) w) : zm_T zc_H d mX7_share Q 59 [] [.long s0] w := by
  exact zm_lreturn dX7_share_59 rfl k
theorem gX7_share_60 {d : Nat} {Q : Value → zm_S → Prop} {w : zm_S} {a1 : Int32} {a3 : Int32} {a4 : Int32} {a5 : Int32} {a6 : Int32} (k : zm_T zc_H d mX7_share Q 66 [(0, .ref 0), (1, .int a1), (3, .int a3), (4, .int a4), (5, .int a5), (6, .int a6), (7, .long (0 : Int64)), (9, .int (0 : Int32))] [] w) : zm_T zc_H d mX7_share Q 60 [(0, .ref 0), (1, .int a1), (3, .int a3), (4, .int a4), (5, .int a5), (6, .int a6)] [] w := by
  refine zm_lconst dX7_share_60 (v := (0 : Int64)) (by decide) ?_
  refine zm_lstore dX7_share_61 (Nat.le_of_ble_eq_true rfl) (ls' := [(7, .long (0 : Int64)), (0, .ref 0), (1, .int a1), (3, .int a3), (4, .int a4), (5, .int a5), (6, .int a6)]) rfl ?_
  refine zm_iconst dX7_share_63 (v := (0 : Int32)) (by decide) ?_
  refine zm_istore dX7_share_64 (Nat.le_of_ble_eq_true rfl) (ls' := [(9, .int (0 : Int32)), (7, .long (0 : Int64)), (0, .ref 0), (1, .int a1), (3, .int a3), (4, .int a4), (5, .int a5), (6, .int a6)]) rfl ?_
  refine zm_sub [2, 3, 4, 5, 6, 7, 1, 0] rfl ?_
  exact k
theorem gX7_share_66 {d : Nat} {Q : Value → zm_S → Prop} {w : zm_S} {a1 : Int32} {a3 : Int32} {a4 : Int32} {a5 : Int32} {a6 : Int32} {a7 : Int64} {a9 : Int32} (kt : (w.1 23 7) ≤ a9 → zm_T zc_H d mX7_share Q 110 [(0, .ref 0), (1, .int a1), (3, .int a3), (4, .int a4), (5, .int a5), (6, .int a6), (7, .long a7)] [] w) (kf : ¬ (w.1 23 7) ≤ a9 → zm_T zc_H d mX7_share Q 78 [(0, .ref 0), (1, .int a1), (3, .int a3), (4, .int a4), (5, .int a5), (6, .int a6), (7, .long a7), (9, .int a9)] [] w) : zm_T zc_H d mX7_share Q 66 [(0, .ref 0), (1, .int a1), (3, .int a3), (4, .int a4), (5, .int a5), (6, .int a6), (7, .long a7), (9, .int a9)] [] w := by
  refine zm_iload (x := a9) 7 dX7_share_66 rfl ?_
  refine zm_aload_n (x := 0) 0 dX7_share_68 rfl rfl ?_
  refine zm_getf (v := .ref 23) (j := 4) dX7_share_69 clX7 flX7_37 (Nat.le_of_ble_eq_true rfl) zc_H0 rfl rfl ?_
  refine zm_getf (v := .int (w.1 23 7)) (j := 7) dX7_share_72 clX6 flX7_189 (Nat.le_of_ble_eq_true rfl) zc_H23 rfl rfl ?_
  refine zm_icmp_ge 110 dX7_share_75 (by decide) (fun h => ?_) (fun h => ?_)
  · refine zm_sub [0, 1, 2, 3, 4, 5, 6] rfl ?_
    exact kt h
  · exact kf h
theorem gX7_share_78 {d : Nat} {Q : Value → zm_S → Prop} {w : zm_S} {a1 : Int32} {a3 : Int32} {a4 : Int32} {a5 : Int32} {a6 : Int32} {a7 : Int64} {a9 : Int32} {Q' : Value → zm_S → Prop} (hi94 : vp_in a9 128) (hC : zm_C zc_H d mX0_chanceAbove [.ref 2, .int a1, .int (w.1 26 (a9).toNatClampNeg), .int a3, .int a4] w Q') (k : ∀ (r : Int64) (u : zm_S), Q' (.long r) u → zm_T zc_H (d + 1) mX7_share Q 101 [(0, .ref 0), (1, .int a1), (3, .int a3), (4, .int a4), (5, .int a5), (6, .int a6), (9, .int a9)] [.long r, .long a7] u) : zm_T zc_H (d + 1) mX7_share Q 78 [(0, .ref 0), (1, .int a1), (3, .int a3), (4, .int a4), (5, .int a5), (6, .int a6), (7, .long a7), (9, .int a9)] [] w := by
  refine zm_lload (x := a7) 6 dX7_share_78 rfl ?_
  refine zm_aload_n (x := 0) 0 dX7_share_80 rfl rfl ?_
  refine zm_getf (v := .ref 2) (j := 1) dX7_share_81 clX7 flX7_16 (Nat.le_of_ble_eq_true rfl) zc_H0 rfl rfl ?_
  refine zm_iload_n (x := a1) 1 dX7_share_84 rfl rfl ?_
  refine zm_aload_n (x := 0) 0 dX7_share_85 rfl rfl ?_
  refine zm_getf (v := .ref 23) (j := 4) dX7_share_86 clX7 flX7_37 (Nat.le_of_ble_eq_true rfl) zc_H0 rfl rfl ?_
  refine zm_getf (v := .ref 26) (j := 2) dX7_share_89 clX6 flX7_190 (Nat.le_of_ble_eq_true rfl) zc_H23 rfl rfl ?_
  refine zm_iload (x := a9) 7 dX7_share_92 rfl ?_
  refine zm_iald dX7_share_94 zc_H26 hi94 ?_
  refine zm_iload_n (x := a3) 2 dX7_share_95 rfl rfl ?_
  refine zm_iload (x := a4) 3 dX7_share_96 rfl ?_
  refine zm_callVl (as := [.int a1, .int (w.1 26 (a9).toNatClampNeg), .int a3, .int a4]) (rest := [.long a7]) dX7_share_98 rfl mtX0_chanceAbove lkX7_231 zc_H2 (C := RX0) rfl rfl rfl (Nat.le_of_ble_eq_true rfl) hC rfl (fun r u hq => ?_)
  refine zm_sub [0, 1, 2, 3, 4, 5, 7] rfl ?_
  exact k r u hq
theorem gX7_share_101 {d : Nat} {Q : Value → zm_S → Prop} {w : zm_S} {a1 : Int32} {a3 : Int32} {a4 : Int32} {a5 : Int32} {a6 : Int32} {a9 : Int32} {s0 : Int64} {s1 : Int64} (k : zm_T zc_H d mX7_share Q 66 [(0, .ref 0), (1, .int a1), (3, .int a3), (4, .int a4), (5, .int a5), (6, .int a6), (7, .long (s1 + s0)), (9, .int (a9 + (1 : Int32)))] [] w) : zm_T zc_H d mX7_share Q 101 [(0, .ref 0), (1, .int a1), (3, .int a3), (4, .int a4), (5, .int a5), (6, .int a6), (9, .int a9)] [.long s0, .long s1] w := by
  refine zm_ladd dX7_share_101 ?_
  refine zm_lstore dX7_share_102 (Nat.le_of_ble_eq_true rfl) (ls' := [(7, .long (s1 + s0)), (0, .ref 0), (1, .int a1), (3, .int a3), (4, .int a4), (5, .int a5), (6, .int a6), (9, .int a9)]) rfl ?_
  refine zm_iinc 7 dX7_share_104 (x := a9) (v := (a9 + (1 : Int32))) rfl rfl (Nat.le_of_ble_eq_true rfl) (ls' := [(9, .int (a9 + (1 : Int32))), (7, .long (s1 + s0)), (0, .ref 0), (1, .int a1), (3, .int a3), (4, .int a4), (5, .int a5), (6, .int a6)]) rfl ?_
  refine zm_goto 66 dX7_share_107 (by decide) ?_
  refine zm_sub [2, 3, 4, 5, 6, 7, 1, 0] rfl ?_
  exact k
theorem gX7_share_110 {d : Nat} {Q : Value → zm_S → Prop} {w : zm_S} {a1 : Int32} {a3 : Int32} {a4 : Int32} {a5 : Int32} {a6 : Int32} {a7 : Int64} (kt : ¬ (lg_cmp a7 (0 : Int64)) = 0 → zm_T zc_H d mX7_share Q 123 [(0, .ref 0), (1, .int a1), (3, .int a3), (4, .int a4), (5, .int a5), (6, .int a6), (7, .long a7)] [] w) (kf : (lg_cmp a7 (0 : Int64)) = 0 → zm_T zc_H d mX7_share Q 117 [] [] w) : zm_T zc_H d mX7_share Q 110 [(0, .ref 0), (1, .int a1), (3, .int a3), (4, .int a4), (5, .int a5), (6, .int a6), (7, .long a7)] [] w := by
  refine zm_lload (x := a7) 6 dX7_share_110 rfl ?_
  refine zm_lconst dX7_share_112 (v := (0 : Int64)) (by decide) ?_
  refine zm_lcmp dX7_share_113 ?_
  refine zm_if_ne 123 dX7_share_114 (by decide) (fun h => ?_) (fun h => ?_)
  · exact kt h
  · refine zm_sub [] rfl ?_
    exact kf h
theorem gX7_share_117 {d : Nat} {Q : Value → zm_S → Prop} {w : zm_S} {Q' : Value → zm_S → Prop} (hC : zm_C zc_H d mX7_refusal [.int (-3 : Int32)] w Q') (k : ∀ (r : Int64) (u : zm_S), Q' (.long r) u → zm_T zc_H (d + 1) mX7_share Q 122 [] [.long r] u) : zm_T zc_H (d + 1) mX7_share Q 117 [] [] w := by
  refine zm_bipush dX7_share_117 (v := (-3 : Int32)) (by decide) ?_
  refine zm_callSl (as := [.int (-3 : Int32)]) (rest := []) dX7_share_119 rfl mtX7_refusal lkX7_165 rfl (Nat.le_of_ble_eq_true rfl) hC rfl (fun r u hq => ?_)
  exact k r u hq
theorem gX7_share_122 {d : Nat} {Q : Value → zm_S → Prop} {w : zm_S} {s0 : Int64} (k : Q (.long s0) w) : zm_T zc_H d mX7_share Q 122 [] [.long s0] w := by
  exact zm_lreturn dX7_share_122 rfl k
theorem gX7_share_123 {d : Nat} {Q : Value → zm_S → Prop} {w : zm_S} {a1 : Int32} {a3 : Int32} {a4 : Int32} {a5 : Int32} {a6 : Int32} {a7 : Int64} {Q' : Value → zm_S → Prop} (hC : zm_C zc_H d mX0_chanceAbove [.ref 2, .int a1, .int a6, .int a3, .int a4] w Q') (k : ∀ (r : Int64) (u : zm_S), Q' (.long r) u → zm_T zc_H (d + 1) mX7_share Q 136 [(5, .int a5), (7, .long a7)] [.long r] u) : zm_T zc_H (d + 1) mX7_share Q 123 [(0, .ref 0), (1, .int a1), (3, .int a3), (4, .int a4), (5, .int a5), (6, .int a6), (7, .long a7)] [] w := by
  refine zm_aload_n (x := 0) 0 dX7_share_123 rfl rfl ?_
  refine zm_getf (v := .ref 2) (j := 1) dX7_share_124 clX7 flX7_16 (Nat.le_of_ble_eq_true rfl) zc_H0 rfl rfl ?_
  refine zm_iload_n (x := a1) 1 dX7_share_127 rfl rfl ?_
  refine zm_iload (x := a6) 5 dX7_share_128 rfl ?_
  refine zm_iload_n (x := a3) 2 dX7_share_130 rfl rfl ?_
  refine zm_iload (x := a4) 3 dX7_share_131 rfl ?_
  refine zm_callVl (as := [.int a1, .int a6, .int a3, .int a4]) (rest := []) dX7_share_133 rfl mtX0_chanceAbove lkX7_231 zc_H2 (C := RX0) rfl rfl rfl (Nat.le_of_ble_eq_true rfl) hC rfl (fun r u hq => ?_)
  refine zm_sub [4, 6] rfl ?_
  exact k r u hq
theorem gX7_share_136 {d : Nat} {Q : Value → zm_S → Prop} {w : zm_S} {a5 : Int32} {a7 : Int64} {s0 : Int64} {Q' : Value → zm_S → Prop} (hC : zm_C zc_H d mX7_lowestTerm [.long s0, .long a7, .int a5] w Q') (k : ∀ (r : Int64) (u : zm_S), Q' (.long r) u → zm_T zc_H (d + 1) mX7_share Q 143 [] [.long r] u) : zm_T zc_H (d + 1) mX7_share Q 136 [(5, .int a5), (7, .long a7)] [.long s0] w := by
  refine zm_lload (x := a7) 1 dX7_share_136 rfl ?_
  refine zm_iload (x := a5) 0 dX7_share_138 rfl ?_
  refine zm_callSl (as := [.long s0, .long a7, .int a5]) (rest := []) dX7_share_140 rfl mtX7_lowestTerm lkX7_176 rfl (Nat.le_of_ble_eq_true rfl) hC rfl (fun r u hq => ?_)
  refine zm_sub [] rfl ?_
  exact k r u hq
theorem gX7_share_143 {d : Nat} {Q : Value → zm_S → Prop} {w : zm_S} {s0 : Int64} (k : Q (.long s0) w) : zm_T zc_H d mX7_share Q 143 [] [.long s0] w := by
  exact zm_lreturn dX7_share_143 rfl k
theorem gX7_likeliest_0 {d : Nat} {Q : Value → zm_S → Prop} {w : zm_S} {a1 : Int32} {a2 : Int32} {a3 : Int32} {Q' : Value → zm_S → Prop} (hC : zm_C zc_H d mX7_chanceFits [.int a1, .int (0 : Int32), .int a2, .int a3] w Q') (k : ∀ (r : Int32) (u : zm_S), Q' (.int r) u → zm_T zc_H (d + 1) mX7_likeliest Q 7 [(0, .ref 0), (1, .int a1), (2, .int a2), (3, .int a3)] [.int r] u) : zm_T zc_H (d + 1) mX7_likeliest Q 0 [(0, .ref 0), (1, .int a1), (2, .int a2), (3, .int a3)] [] w := by
  refine zm_iload_n (x := a1) 1 dX7_likeliest_0 rfl rfl ?_
  refine zm_iconst dX7_likeliest_1 (v := (0 : Int32)) (by decide) ?_
  refine zm_iload_n (x := a2) 2 dX7_likeliest_2 rfl rfl ?_
  refine zm_iload_n (x := a3) 3 dX7_likeliest_3 rfl rfl ?_
  refine zm_callSz (as := [.int a1, .int (0 : Int32), .int a2, .int a3]) (rest := []) dX7_likeliest_4 rfl mtX7_chanceFits lkX7_227 rfl (Nat.le_of_ble_eq_true rfl) hC rfl (fun r u hq => ?_)
  exact k r u hq
theorem gX7_likeliest_7 {d : Nat} {Q : Value → zm_S → Prop} {w : zm_S} {a1 : Int32} {a2 : Int32} {a3 : Int32} {s0 : Int32} (kt : ¬ s0 = 0 → zm_T zc_H d mX7_likeliest Q 13 [(0, .ref 0), (1, .int a1), (2, .int a2), (3, .int a3)] [] w) (kf : s0 = 0 → zm_T zc_H d mX7_likeliest Q 10 [] [] w) : zm_T zc_H d mX7_likeliest Q 7 [(0, .ref 0), (1, .int a1), (2, .int a2), (3, .int a3)] [.int s0] w := by
  refine zm_if_ne 13 dX7_likeliest_7 (by decide) (fun h => ?_) (fun h => ?_)
  · exact kt h
  · refine zm_sub [] rfl ?_
    exact kf h
theorem gX7_likeliest_10 {d : Nat} {Q : Value → zm_S → Prop} {w : zm_S} (k : Q (.int (-2 : Int32)) w) : zm_T zc_H d mX7_likeliest Q 10 [] [] w := by
  refine zm_bipush dX7_likeliest_10 (v := (-2 : Int32)) (by decide) ?_
  exact zm_ireturn dX7_likeliest_12 rfl k
theorem gX7_likeliest_13 {d : Nat} {Q : Value → zm_S → Prop} {w : zm_S} {a1 : Int32} {a2 : Int32} {a3 : Int32} {Q' : Value → zm_S → Prop} (hC : zm_C zc_H d mX7_findStates [.ref 0] w Q') (k : ∀ (u : zm_S), Q' .null u → zm_T zc_H (d + 1) mX7_likeliest Q 17 [(0, .ref 0), (1, .int a1), (2, .int a2), (3, .int a3)] [] u) : zm_T zc_H (d + 1) mX7_likeliest Q 13 [(0, .ref 0), (1, .int a1), (2, .int a2), (3, .int a3)] [] w := by
  refine zm_aload_n (x := 0) 0 dX7_likeliest_13 rfl rfl ?_
  refine zm_callVv (as := []) (rest := []) dX7_likeliest_14 rfl mtX7_findStates lkX7_186 zc_H0 (C := RX7) rfl rfl rfl (Nat.le_of_ble_eq_true rfl) hC rfl (fun u hq => ?_)
  exact k u hq
theorem gX7_likeliest_17 {d : Nat} {Q : Value → zm_S → Prop} {w : zm_S} {a1 : Int32} {a2 : Int32} {a3 : Int32} (k : zm_T zc_H d mX7_likeliest Q 28 [(0, .ref 0), (1, .int a1), (2, .int a2), (3, .int a3), (4, .int (0 : Int32)), (5, .long (-1 : Int64)), (7, .int (0 : Int32))] [] w) : zm_T zc_H d mX7_likeliest Q 17 [(0, .ref 0), (1, .int a1), (2, .int a2), (3, .int a3)] [] w := by
  refine zm_iconst dX7_likeliest_17 (v := (0 : Int32)) (by decide) ?_
  refine zm_istore dX7_likeliest_18 (Nat.le_of_ble_eq_true rfl) (ls' := [(4, .int (0 : Int32)), (0, .ref 0), (1, .int a1), (2, .int a2), (3, .int a3)]) rfl ?_
  refine zm_ldc2_w dX7_likeliest_20 kcX7_238 ?_
  refine zm_lstore dX7_likeliest_23 (Nat.le_of_ble_eq_true rfl) (ls' := [(5, .long (-1 : Int64)), (4, .int (0 : Int32)), (0, .ref 0), (1, .int a1), (2, .int a2), (3, .int a3)]) rfl ?_
  refine zm_iconst dX7_likeliest_25 (v := (0 : Int32)) (by decide) ?_
  refine zm_istore dX7_likeliest_26 (Nat.le_of_ble_eq_true rfl) (ls' := [(7, .int (0 : Int32)), (5, .long (-1 : Int64)), (4, .int (0 : Int32)), (0, .ref 0), (1, .int a1), (2, .int a2), (3, .int a3)]) rfl ?_
  refine zm_sub [3, 4, 5, 6, 2, 1, 0] rfl ?_
  exact k
theorem gX7_likeliest_28 {d : Nat} {Q : Value → zm_S → Prop} {w : zm_S} {a1 : Int32} {a2 : Int32} {a3 : Int32} {a4 : Int32} {a5 : Int64} {a7 : Int32} (kt : (w.1 23 7) ≤ a7 → zm_T zc_H d mX7_likeliest Q 92 [(4, .int a4)] [] w) (kf : ¬ (w.1 23 7) ≤ a7 → zm_T zc_H d mX7_likeliest Q 40 [(0, .ref 0), (1, .int a1), (2, .int a2), (3, .int a3), (4, .int a4), (5, .long a5), (7, .int a7)] [] w) : zm_T zc_H d mX7_likeliest Q 28 [(0, .ref 0), (1, .int a1), (2, .int a2), (3, .int a3), (4, .int a4), (5, .long a5), (7, .int a7)] [] w := by
  refine zm_iload (x := a7) 6 dX7_likeliest_28 rfl ?_
  refine zm_aload_n (x := 0) 0 dX7_likeliest_30 rfl rfl ?_
  refine zm_getf (v := .ref 23) (j := 4) dX7_likeliest_31 clX7 flX7_37 (Nat.le_of_ble_eq_true rfl) zc_H0 rfl rfl ?_
  refine zm_getf (v := .int (w.1 23 7)) (j := 7) dX7_likeliest_34 clX6 flX7_189 (Nat.le_of_ble_eq_true rfl) zc_H23 rfl rfl ?_
  refine zm_icmp_ge 92 dX7_likeliest_37 (by decide) (fun h => ?_) (fun h => ?_)
  · refine zm_sub [4] rfl ?_
    exact kt h
  · exact kf h
theorem gX7_likeliest_40 {d : Nat} {Q : Value → zm_S → Prop} {w : zm_S} {a1 : Int32} {a2 : Int32} {a3 : Int32} {a4 : Int32} {a5 : Int64} {a7 : Int32} {Q' : Value → zm_S → Prop} (hi54 : vp_in a7 128) (hC : zm_C zc_H d mX0_chanceAbove [.ref 2, .int a1, .int (w.1 26 (a7).toNatClampNeg), .int a2, .int a3] w Q') (k : ∀ (r : Int64) (u : zm_S), Q' (.long r) u → zm_T zc_H (d + 1) mX7_likeliest Q 60 [(0, .ref 0), (1, .int a1), (2, .int a2), (3, .int a3), (4, .int a4), (5, .long a5), (7, .int a7)] [.long r] u) : zm_T zc_H (d + 1) mX7_likeliest Q 40 [(0, .ref 0), (1, .int a1), (2, .int a2), (3, .int a3), (4, .int a4), (5, .long a5), (7, .int a7)] [] w := by
  refine zm_aload_n (x := 0) 0 dX7_likeliest_40 rfl rfl ?_
  refine zm_getf (v := .ref 2) (j := 1) dX7_likeliest_41 clX7 flX7_16 (Nat.le_of_ble_eq_true rfl) zc_H0 rfl rfl ?_
  refine zm_iload_n (x := a1) 1 dX7_likeliest_44 rfl rfl ?_
  refine zm_aload_n (x := 0) 0 dX7_likeliest_45 rfl rfl ?_
  refine zm_getf (v := .ref 23) (j := 4) dX7_likeliest_46 clX7 flX7_37 (Nat.le_of_ble_eq_true rfl) zc_H0 rfl rfl ?_
  refine zm_getf (v := .ref 26) (j := 2) dX7_likeliest_49 clX6 flX7_190 (Nat.le_of_ble_eq_true rfl) zc_H23 rfl rfl ?_
  refine zm_iload (x := a7) 6 dX7_likeliest_52 rfl ?_
  refine zm_iald dX7_likeliest_54 zc_H26 hi54 ?_
  refine zm_iload_n (x := a2) 2 dX7_likeliest_55 rfl rfl ?_
  refine zm_iload_n (x := a3) 3 dX7_likeliest_56 rfl rfl ?_
  refine zm_callVl (as := [.int a1, .int (w.1 26 (a7).toNatClampNeg), .int a2, .int a3]) (rest := []) dX7_likeliest_57 rfl mtX0_chanceAbove lkX7_231 zc_H2 (C := RX0) rfl rfl rfl (Nat.le_of_ble_eq_true rfl) hC rfl (fun r u hq => ?_)
  exact k r u hq
theorem gX7_likeliest_60 {d : Nat} {Q : Value → zm_S → Prop} {w : zm_S} {a1 : Int32} {a2 : Int32} {a3 : Int32} {a4 : Int32} {a5 : Int64} {a7 : Int32} {s0 : Int64} (kt : (lg_cmp s0 a5) ≤ 0 → zm_T zc_H d mX7_likeliest Q 86 [(0, .ref 0), (1, .int a1), (2, .int a2), (3, .int a3), (4, .int a4), (5, .long a5), (7, .int a7)] [] w) (kf : ¬ (lg_cmp s0 a5) ≤ 0 → zm_T zc_H d mX7_likeliest Q 70 [(0, .ref 0), (1, .int a1), (2, .int a2), (3, .int a3), (7, .int a7), (8, .long s0)] [] w) : zm_T zc_H d mX7_likeliest Q 60 [(0, .ref 0), (1, .int a1), (2, .int a2), (3, .int a3), (4, .int a4), (5, .long a5), (7, .int a7)] [.long s0] w := by
  refine zm_lstore dX7_likeliest_60 (Nat.le_of_ble_eq_true rfl) (ls' := [(8, .long s0), (0, .ref 0), (1, .int a1), (2, .int a2), (3, .int a3), (4, .int a4), (5, .long a5), (7, .int a7)]) rfl ?_
  refine zm_lload (x := s0) 0 dX7_likeliest_62 rfl ?_
  refine zm_lload (x := a5) 6 dX7_likeliest_64 rfl ?_
  refine zm_lcmp dX7_likeliest_66 ?_
  refine zm_if_le 86 dX7_likeliest_67 (by decide) (fun h => ?_) (fun h => ?_)
  · refine zm_sub [1, 2, 3, 4, 5, 6, 7] rfl ?_
    exact kt h
  · refine zm_sub [1, 2, 3, 4, 7, 0] rfl ?_
    exact kf h
theorem gX7_likeliest_70 {d : Nat} {Q : Value → zm_S → Prop} {w : zm_S} {a1 : Int32} {a2 : Int32} {a3 : Int32} {a7 : Int32} {a8 : Int64} (hi83 : vp_in a7 128) (k : zm_T zc_H d mX7_likeliest Q 86 [(0, .ref 0), (1, .int a1), (2, .int a2), (3, .int a3), (4, .int (w.1 26 (a7).toNatClampNeg)), (5, .long a8), (7, .int a7)] [] w) : zm_T zc_H d mX7_likeliest Q 70 [(0, .ref 0), (1, .int a1), (2, .int a2), (3, .int a3), (7, .int a7), (8, .long a8)] [] w := by
  refine zm_lload (x := a8) 5 dX7_likeliest_70 rfl ?_
  refine zm_lstore dX7_likeliest_72 (Nat.le_of_ble_eq_true rfl) (ls' := [(5, .long a8), (0, .ref 0), (1, .int a1), (2, .int a2), (3, .int a3), (7, .int a7), (8, .long a8)]) rfl ?_
  refine zm_aload_n (x := 0) 1 dX7_likeliest_74 rfl rfl ?_
  refine zm_getf (v := .ref 23) (j := 4) dX7_likeliest_75 clX7 flX7_37 (Nat.le_of_ble_eq_true rfl) zc_H0 rfl rfl ?_
  refine zm_getf (v := .ref 26) (j := 2) dX7_likeliest_78 clX6 flX7_190 (Nat.le_of_ble_eq_true rfl) zc_H23 rfl rfl ?_
  refine zm_iload (x := a7) 5 dX7_likeliest_81 rfl ?_
  refine zm_iald dX7_likeliest_83 zc_H26 hi83 ?_
  refine zm_istore dX7_likeliest_84 (Nat.le_of_ble_eq_true rfl) (ls' := [(4, .int (w.1 26 (a7).toNatClampNeg)), (5, .long a8), (0, .ref 0), (1, .int a1), (2, .int a2), (3, .int a3), (7, .int a7), (8, .long a8)]) rfl ?_
  refine zm_sub [2, 3, 4, 5, 0, 1, 6] rfl ?_
  exact k
theorem gX7_likeliest_86 {d : Nat} {Q : Value → zm_S → Prop} {w : zm_S} {a1 : Int32} {a2 : Int32} {a3 : Int32} {a4 : Int32} {a5 : Int64} {a7 : Int32} (k : zm_T zc_H d mX7_likeliest Q 28 [(0, .ref 0), (1, .int a1), (2, .int a2), (3, .int a3), (4, .int a4), (5, .long a5), (7, .int (a7 + (1 : Int32)))] [] w) : zm_T zc_H d mX7_likeliest Q 86 [(0, .ref 0), (1, .int a1), (2, .int a2), (3, .int a3), (4, .int a4), (5, .long a5), (7, .int a7)] [] w := by
  refine zm_iinc 6 dX7_likeliest_86 (x := a7) (v := (a7 + (1 : Int32))) rfl rfl (Nat.le_of_ble_eq_true rfl) (ls' := [(7, .int (a7 + (1 : Int32))), (0, .ref 0), (1, .int a1), (2, .int a2), (3, .int a3), (4, .int a4), (5, .long a5)]) rfl ?_
  refine zm_goto 28 dX7_likeliest_89 (by decide) ?_
  refine zm_sub [1, 2, 3, 4, 5, 6, 0] rfl ?_
  exact k
theorem gX7_likeliest_92 {d : Nat} {Q : Value → zm_S → Prop} {w : zm_S} {a4 : Int32} (k : Q (.int a4) w) : zm_T zc_H d mX7_likeliest Q 92 [(4, .int a4)] [] w := by
  refine zm_iload (x := a4) 0 dX7_likeliest_92 rfl ?_
  exact zm_ireturn dX7_likeliest_94 rfl k
theorem gX7_lessons_0 {d : Nat} {Q : Value → zm_S → Prop} {w : zm_S} {a1 : Int32} {a2 : Int32} {Q' : Value → zm_S → Prop} (hC : zm_C zc_H d mX7_within [.int a1, .int (5 : Int32)] w Q') (k : ∀ (r : Int32) (u : zm_S), Q' (.int r) u → zm_T zc_H (d + 1) mX7_lessons Q 5 [(0, .ref 0), (1, .int a1), (2, .int a2)] [.int r] u) : zm_T zc_H (d + 1) mX7_lessons Q 0 [(0, .ref 0), (1, .int a1), (2, .int a2)] [] w := by
  refine zm_iload_n (x := a1) 1 dX7_lessons_0 rfl rfl ?_
  refine zm_iconst dX7_lessons_1 (v := (5 : Int32)) (by decide) ?_
  refine zm_callSz (as := [.int a1, .int (5 : Int32)]) (rest := []) dX7_lessons_2 rfl mtX7_within lkX7_62 rfl (Nat.le_of_ble_eq_true rfl) hC rfl (fun r u hq => ?_)
  exact k r u hq
theorem gX7_lessons_5 {d : Nat} {Q : Value → zm_S → Prop} {w : zm_S} {a1 : Int32} {a2 : Int32} {s0 : Int32} (kt : s0 = 0 → zm_T zc_H d mX7_lessons Q 18 [] [] w) (kf : ¬ s0 = 0 → zm_T zc_H d mX7_lessons Q 8 [(0, .ref 0), (1, .int a1), (2, .int a2)] [] w) : zm_T zc_H d mX7_lessons Q 5 [(0, .ref 0), (1, .int a1), (2, .int a2)] [.int s0] w := by
  refine zm_if_eq 18 dX7_lessons_5 (by decide) (fun h => ?_) (fun h => ?_)
  · refine zm_sub [] rfl ?_
    exact kt h
  · exact kf h
theorem gX7_lessons_8 {d : Nat} {Q : Value → zm_S → Prop} {w : zm_S} {a1 : Int32} {a2 : Int32} (kt : a2 < (-1 : Int32) → zm_T zc_H d mX7_lessons Q 18 [] [] w) (kf : ¬ a2 < (-1 : Int32) → zm_T zc_H d mX7_lessons Q 13 [(0, .ref 0), (1, .int a1), (2, .int a2)] [] w) : zm_T zc_H d mX7_lessons Q 8 [(0, .ref 0), (1, .int a1), (2, .int a2)] [] w := by
  refine zm_iload_n (x := a2) 2 dX7_lessons_8 rfl rfl ?_
  refine zm_iconst dX7_lessons_9 (v := (-1 : Int32)) (by decide) ?_
  refine zm_icmp_lt 18 dX7_lessons_10 (by decide) (fun h => ?_) (fun h => ?_)
  · refine zm_sub [] rfl ?_
    exact kt h
  · exact kf h
theorem gX7_lessons_13 {d : Nat} {Q : Value → zm_S → Prop} {w : zm_S} {a1 : Int32} {a2 : Int32} (kt : a2 < a1 → zm_T zc_H d mX7_lessons Q 21 [(0, .ref 0), (1, .int a1), (2, .int a2)] [] w) (kf : ¬ a2 < a1 → zm_T zc_H d mX7_lessons Q 18 [] [] w) : zm_T zc_H d mX7_lessons Q 13 [(0, .ref 0), (1, .int a1), (2, .int a2)] [] w := by
  refine zm_iload_n (x := a2) 2 dX7_lessons_13 rfl rfl ?_
  refine zm_iload_n (x := a1) 1 dX7_lessons_14 rfl rfl ?_
  refine zm_icmp_lt 21 dX7_lessons_15 (by decide) (fun h => ?_) (fun h => ?_)
  · exact kt h
  · refine zm_sub [] rfl ?_
    exact kf h
theorem gX7_lessons_18 {d : Nat} {Q : Value → zm_S → Prop} {w : zm_S} (k : Q (.int (-2 : Int32)) w) : zm_T zc_H d mX7_lessons Q 18 [] [] w := by
  refine zm_bipush dX7_lessons_18 (v := (-2 : Int32)) (by decide) ?_
  exact zm_ireturn dX7_lessons_20 rfl k
theorem gX7_lessons_21 {d : Nat} {Q : Value → zm_S → Prop} {w : zm_S} {a1 : Int32} {a2 : Int32} {Q' : Value → zm_S → Prop} (hC : zm_C zc_H d mX7_findStates [.ref 0] w Q') (k : ∀ (u : zm_S), Q' .null u → zm_T zc_H (d + 1) mX7_lessons Q 25 [(0, .ref 0), (1, .int a1), (2, .int a2)] [] u) : zm_T zc_H (d + 1) mX7_lessons Q 21 [(0, .ref 0), (1, .int a1), (2, .int a2)] [] w := by
  refine zm_aload_n (x := 0) 0 dX7_lessons_21 rfl rfl ?_
  refine zm_callVv (as := []) (rest := []) dX7_lessons_22 rfl mtX7_findStates lkX7_186 zc_H0 (C := RX7) rfl rfl rfl (Nat.le_of_ble_eq_true rfl) hC rfl (fun u hq => ?_)
  exact k u hq
theorem gX7_lessons_25 {d : Nat} {Q : Value → zm_S → Prop} {w : zm_S} {a1 : Int32} {a2 : Int32} {Q' : Value → zm_S → Prop} (hC : zm_C zc_H d mX3_begin [.ref 30] w Q') (k : ∀ (u : zm_S), Q' .null u → zm_T zc_H (d + 1) mX7_lessons Q 32 [(0, .ref 0), (1, .int a1), (2, .int a2)] [] u) : zm_T zc_H (d + 1) mX7_lessons Q 25 [(0, .ref 0), (1, .int a1), (2, .int a2)] [] w := by
  refine zm_aload_n (x := 0) 0 dX7_lessons_25 rfl rfl ?_
  refine zm_getf (v := .ref 30) (j := 6) dX7_lessons_26 clX7 flX7_51 (Nat.le_of_ble_eq_true rfl) zc_H0 rfl rfl ?_
  refine zm_callVv (as := []) (rest := []) dX7_lessons_29 rfl mtX3_begin lkX7_240 zc_H30 (C := RX3) rfl rfl rfl (Nat.le_of_ble_eq_true rfl) hC rfl (fun u hq => ?_)
  exact k u hq
theorem gX7_lessons_32 {d : Nat} {Q : Value → zm_S → Prop} {w : zm_S} {a1 : Int32} {a2 : Int32} (k : zm_T zc_H d mX7_lessons Q 34 [(0, .ref 0), (1, .int a1), (2, .int a2), (3, .int (0 : Int32))] [] w) : zm_T zc_H d mX7_lessons Q 32 [(0, .ref 0), (1, .int a1), (2, .int a2)] [] w := by
  refine zm_iconst dX7_lessons_32 (v := (0 : Int32)) (by decide) ?_
  refine zm_istore_n dX7_lessons_33 rfl (Nat.le_of_ble_eq_true rfl) (ls' := [(3, .int (0 : Int32)), (0, .ref 0), (1, .int a1), (2, .int a2)]) rfl ?_
  refine zm_sub [1, 2, 3, 0] rfl ?_
  exact k
theorem gX7_lessons_34 {d : Nat} {Q : Value → zm_S → Prop} {w : zm_S} {a1 : Int32} {a2 : Int32} {a3 : Int32} (kt : (12 : Int32) ≤ a3 → zm_T zc_H d mX7_lessons Q 69 [(0, .ref 0), (1, .int a1), (2, .int a2)] [] w) (kf : ¬ (12 : Int32) ≤ a3 → zm_T zc_H d mX7_lessons Q 40 [(0, .ref 0), (1, .int a1), (2, .int a2), (3, .int a3)] [] w) : zm_T zc_H d mX7_lessons Q 34 [(0, .ref 0), (1, .int a1), (2, .int a2), (3, .int a3)] [] w := by
  refine zm_iload_n (x := a3) 3 dX7_lessons_34 rfl rfl ?_
  refine zm_bipush dX7_lessons_35 (v := (12 : Int32)) (by decide) ?_
  refine zm_icmp_ge 69 dX7_lessons_37 (by decide) (fun h => ?_) (fun h => ?_)
  · refine zm_sub [0, 1, 2] rfl ?_
    exact kt h
  · exact kf h
theorem gX7_lessons_40 {d : Nat} {Q : Value → zm_S → Prop} {w : zm_S} {a1 : Int32} {a2 : Int32} {a3 : Int32} {Q' : Value → zm_S → Prop} (hC : zm_C zc_H d mX0_given [.ref 2, .int a3] w Q') (k : ∀ (r : Int32) (u : zm_S), Q' (.int r) u → zm_T zc_H (d + 1) mX7_lessons Q 48 [(0, .ref 0), (1, .int a1), (2, .int a2), (3, .int a3)] [.int r] u) : zm_T zc_H (d + 1) mX7_lessons Q 40 [(0, .ref 0), (1, .int a1), (2, .int a2), (3, .int a3)] [] w := by
  refine zm_aload_n (x := 0) 0 dX7_lessons_40 rfl rfl ?_
  refine zm_getf (v := .ref 2) (j := 1) dX7_lessons_41 clX7 flX7_16 (Nat.le_of_ble_eq_true rfl) zc_H0 rfl rfl ?_
  refine zm_iload_n (x := a3) 3 dX7_lessons_44 rfl rfl ?_
  refine zm_callVi (as := [.int a3]) (rest := []) dX7_lessons_45 rfl mtX0_given lkX7_242 zc_H2 (C := RX0) rfl rfl rfl (Nat.le_of_ble_eq_true rfl) hC rfl (fun r u hq => ?_)
  exact k r u hq
theorem gX7_lessons_48 {d : Nat} {Q : Value → zm_S → Prop} {w : zm_S} {a1 : Int32} {a2 : Int32} {a3 : Int32} {s0 : Int32} (kt : s0 ≤ 0 → zm_T zc_H d mX7_lessons Q 63 [(0, .ref 0), (1, .int a1), (2, .int a2), (3, .int a3)] [] w) (kf : ¬ s0 ≤ 0 → zm_T zc_H d mX7_lessons Q 51 [(0, .ref 0), (1, .int a1), (2, .int a2), (3, .int a3)] [] w) : zm_T zc_H d mX7_lessons Q 48 [(0, .ref 0), (1, .int a1), (2, .int a2), (3, .int a3)] [.int s0] w := by
  refine zm_if_le 63 dX7_lessons_48 (by decide) (fun h => ?_) (fun h => ?_)
  · exact kt h
  · exact kf h
theorem gX7_lessons_51 {d : Nat} {Q : Value → zm_S → Prop} {w : zm_S} {a1 : Int32} {a2 : Int32} {a3 : Int32} {Q' : Value → zm_S → Prop} (hC : zm_C zc_H d mX7_stateOf [.ref 0, .int a3] w Q') (k : ∀ (r : Int32) (u : zm_S), Q' (.int r) u → zm_T zc_H (d + 1) mX7_lessons Q 60 [(0, .ref 0), (1, .int a1), (2, .int a2), (3, .int a3)] [.int r, .ref 30] u) : zm_T zc_H (d + 1) mX7_lessons Q 51 [(0, .ref 0), (1, .int a1), (2, .int a2), (3, .int a3)] [] w := by
  refine zm_aload_n (x := 0) 0 dX7_lessons_51 rfl rfl ?_
  refine zm_getf (v := .ref 30) (j := 6) dX7_lessons_52 clX7 flX7_51 (Nat.le_of_ble_eq_true rfl) zc_H0 rfl rfl ?_
  refine zm_aload_n (x := 0) 0 dX7_lessons_55 rfl rfl ?_
  refine zm_iload_n (x := a3) 3 dX7_lessons_56 rfl rfl ?_
  refine zm_callVi (as := [.int a3]) (rest := [.ref 30]) dX7_lessons_57 rfl mtX7_stateOf lkX7_193 zc_H0 (C := RX7) rfl rfl rfl (Nat.le_of_ble_eq_true rfl) hC rfl (fun r u hq => ?_)
  exact k r u hq
theorem gX7_lessons_60 {d : Nat} {Q : Value → zm_S → Prop} {w : zm_S} {a1 : Int32} {a2 : Int32} {a3 : Int32} {s0 : Int32} {Q' : Value → zm_S → Prop} (hC : zm_C zc_H d mX3_admit [.ref 30, .int s0] w Q') (k : ∀ (u : zm_S), Q' .null u → zm_T zc_H (d + 1) mX7_lessons Q 63 [(0, .ref 0), (1, .int a1), (2, .int a2), (3, .int a3)] [] u) : zm_T zc_H (d + 1) mX7_lessons Q 60 [(0, .ref 0), (1, .int a1), (2, .int a2), (3, .int a3)] [.int s0, .ref 30] w := by
  refine zm_callVv (as := [.int s0]) (rest := []) dX7_lessons_60 rfl mtX3_admit lkX7_245 zc_H30 (C := RX3) rfl rfl rfl (Nat.le_of_ble_eq_true rfl) hC rfl (fun u hq => ?_)
  exact k u hq
theorem gX7_lessons_63 {d : Nat} {Q : Value → zm_S → Prop} {w : zm_S} {a1 : Int32} {a2 : Int32} {a3 : Int32} (k : zm_T zc_H d mX7_lessons Q 34 [(0, .ref 0), (1, .int a1), (2, .int a2), (3, .int (a3 + (1 : Int32)))] [] w) : zm_T zc_H d mX7_lessons Q 63 [(0, .ref 0), (1, .int a1), (2, .int a2), (3, .int a3)] [] w := by
  refine zm_iinc 3 dX7_lessons_63 (x := a3) (v := (a3 + (1 : Int32))) rfl rfl (Nat.le_of_ble_eq_true rfl) (ls' := [(3, .int (a3 + (1 : Int32))), (0, .ref 0), (1, .int a1), (2, .int a2)]) rfl ?_
  refine zm_goto 34 dX7_lessons_66 (by decide) ?_
  refine zm_sub [1, 2, 3, 0] rfl ?_
  exact k
theorem gX7_lessons_69 {d : Nat} {Q : Value → zm_S → Prop} {w : zm_S} {a1 : Int32} {a2 : Int32} {Q' : Value → zm_S → Prop} (hC : zm_C zc_H d mX3_choose [.ref 30, .int a1, .ref 23] w Q') (k : ∀ (u : zm_S), Q' .null u → zm_T zc_H (d + 1) mX7_lessons Q 81 [(0, .ref 0), (2, .int a2)] [] u) : zm_T zc_H (d + 1) mX7_lessons Q 69 [(0, .ref 0), (1, .int a1), (2, .int a2)] [] w := by
  refine zm_aload_n (x := 0) 0 dX7_lessons_69 rfl rfl ?_
  refine zm_getf (v := .ref 30) (j := 6) dX7_lessons_70 clX7 flX7_51 (Nat.le_of_ble_eq_true rfl) zc_H0 rfl rfl ?_
  refine zm_iload_n (x := a1) 1 dX7_lessons_73 rfl rfl ?_
  refine zm_aload_n (x := 0) 0 dX7_lessons_74 rfl rfl ?_
  refine zm_getf (v := .ref 23) (j := 4) dX7_lessons_75 clX7 flX7_37 (Nat.le_of_ble_eq_true rfl) zc_H0 rfl rfl ?_
  refine zm_callVv (as := [.int a1, .ref 23]) (rest := []) dX7_lessons_78 rfl mtX3_choose lkX7_248 zc_H30 (C := RX3) rfl rfl rfl (Nat.le_of_ble_eq_true rfl) hC rfl (fun u hq => ?_)
  refine zm_sub [0, 2] rfl ?_
  exact k u hq
theorem gX7_lessons_81 {d : Nat} {Q : Value → zm_S → Prop} {w : zm_S} {a2 : Int32} (kt : ¬ a2 = (-1 : Int32) → zm_T zc_H d mX7_lessons Q 96 [(0, .ref 0), (2, .int a2)] [] w) (kf : a2 = (-1 : Int32) → zm_T zc_H d mX7_lessons Q 86 [(0, .ref 0)] [] w) : zm_T zc_H d mX7_lessons Q 81 [(0, .ref 0), (2, .int a2)] [] w := by
  refine zm_iload_n (x := a2) 1 dX7_lessons_81 rfl rfl ?_
  refine zm_iconst dX7_lessons_82 (v := (-1 : Int32)) (by decide) ?_
  refine zm_icmp_ne 96 dX7_lessons_83 (by decide) (fun h => ?_) (fun h => ?_)
  · exact kt h
  · refine zm_sub [0] rfl ?_
    exact kf h
theorem gX7_lessons_86 {d : Nat} {Q : Value → zm_S → Prop} {w : zm_S} (k : Q (.int (w.1 30 5)) w) : zm_T zc_H d mX7_lessons Q 86 [(0, .ref 0)] [] w := by
  refine zm_aload_n (x := 0) 0 dX7_lessons_86 rfl rfl ?_
  refine zm_getf (v := .ref 30) (j := 6) dX7_lessons_87 clX7 flX7_51 (Nat.le_of_ble_eq_true rfl) zc_H0 rfl rfl ?_
  refine zm_getf (v := .int (w.1 30 5)) (j := 5) dX7_lessons_90 clX3 flX7_252 (Nat.le_of_ble_eq_true rfl) zc_H30 rfl rfl ?_
  refine zm_goto 105 dX7_lessons_93 (by decide) ?_
  exact zm_ireturn dX7_lessons_105 rfl k
theorem gX7_lessons_96 {d : Nat} {Q : Value → zm_S → Prop} {w : zm_S} {a2 : Int32} (hi104 : vp_in a2 4) (k : Q (.int (w.1 33 (a2).toNatClampNeg)) w) : zm_T zc_H d mX7_lessons Q 96 [(0, .ref 0), (2, .int a2)] [] w := by
  refine zm_aload_n (x := 0) 0 dX7_lessons_96 rfl rfl ?_
  refine zm_getf (v := .ref 30) (j := 6) dX7_lessons_97 clX7 flX7_51 (Nat.le_of_ble_eq_true rfl) zc_H0 rfl rfl ?_
  refine zm_getf (v := .ref 33) (j := 2) dX7_lessons_100 clX3 flX7_255 (Nat.le_of_ble_eq_true rfl) zc_H30 rfl rfl ?_
  refine zm_iload_n (x := a2) 1 dX7_lessons_103 rfl rfl ?_
  refine zm_iald dX7_lessons_104 zc_H33 hi104 ?_
  exact zm_ireturn dX7_lessons_105 rfl k
theorem gX7_sheet_0 {d : Nat} {Q : Value → zm_S → Prop} {w : zm_S} {a1 : Int32} {a2 : Int32} {a3 : Int32} {Q' : Value → zm_S → Prop} (hC : zm_C zc_H d mX7_within [.int a1, .int (4 : Int32)] w Q') (k : ∀ (r : Int32) (u : zm_S), Q' (.int r) u → zm_T zc_H (d + 1) mX7_sheet Q 5 [(0, .ref 0), (1, .int a1), (2, .int a2), (3, .int a3)] [.int r] u) : zm_T zc_H (d + 1) mX7_sheet Q 0 [(0, .ref 0), (1, .int a1), (2, .int a2), (3, .int a3)] [] w := by
  refine zm_iload_n (x := a1) 1 dX7_sheet_0 rfl rfl ?_
  refine zm_iconst dX7_sheet_1 (v := (4 : Int32)) (by decide) ?_
  refine zm_callSz (as := [.int a1, .int (4 : Int32)]) (rest := []) dX7_sheet_2 rfl mtX7_within lkX7_62 rfl (Nat.le_of_ble_eq_true rfl) hC rfl (fun r u hq => ?_)
  exact k r u hq
theorem gX7_sheet_5 {d : Nat} {Q : Value → zm_S → Prop} {w : zm_S} {a1 : Int32} {a2 : Int32} {a3 : Int32} {s0 : Int32} (kt : s0 = 0 → zm_T zc_H d mX7_sheet Q 22 [] [] w) (kf : ¬ s0 = 0 → zm_T zc_H d mX7_sheet Q 8 [(0, .ref 0), (1, .int a1), (2, .int a2), (3, .int a3)] [] w) : zm_T zc_H d mX7_sheet Q 5 [(0, .ref 0), (1, .int a1), (2, .int a2), (3, .int a3)] [.int s0] w := by
  refine zm_if_eq 22 dX7_sheet_5 (by decide) (fun h => ?_) (fun h => ?_)
  · refine zm_sub [] rfl ?_
    exact kt h
  · exact kf h
theorem gX7_sheet_8 {d : Nat} {Q : Value → zm_S → Prop} {w : zm_S} {a1 : Int32} {a2 : Int32} {a3 : Int32} {Q' : Value → zm_S → Prop} (hC : zm_C zc_H d mX7_within [.int a2, .int (3 : Int32)] w Q') (k : ∀ (r : Int32) (u : zm_S), Q' (.int r) u → zm_T zc_H (d + 1) mX7_sheet Q 13 [(0, .ref 0), (1, .int a1), (2, .int a2), (3, .int a3)] [.int r] u) : zm_T zc_H (d + 1) mX7_sheet Q 8 [(0, .ref 0), (1, .int a1), (2, .int a2), (3, .int a3)] [] w := by
  refine zm_iload_n (x := a2) 2 dX7_sheet_8 rfl rfl ?_
  refine zm_iconst dX7_sheet_9 (v := (3 : Int32)) (by decide) ?_
  refine zm_callSz (as := [.int a2, .int (3 : Int32)]) (rest := []) dX7_sheet_10 rfl mtX7_within lkX7_62 rfl (Nat.le_of_ble_eq_true rfl) hC rfl (fun r u hq => ?_)
  exact k r u hq
theorem gX7_sheet_13 {d : Nat} {Q : Value → zm_S → Prop} {w : zm_S} {a1 : Int32} {a2 : Int32} {a3 : Int32} {s0 : Int32} (kt : s0 = 0 → zm_T zc_H d mX7_sheet Q 22 [] [] w) (kf : ¬ s0 = 0 → zm_T zc_H d mX7_sheet Q 16 [(0, .ref 0), (1, .int a1), (2, .int a2), (3, .int a3)] [] w) : zm_T zc_H d mX7_sheet Q 13 [(0, .ref 0), (1, .int a1), (2, .int a2), (3, .int a3)] [.int s0] w := by
  refine zm_if_eq 22 dX7_sheet_13 (by decide) (fun h => ?_) (fun h => ?_)
  · refine zm_sub [] rfl ?_
    exact kt h
  · exact kf h
theorem gX7_sheet_16 {d : Nat} {Q : Value → zm_S → Prop} {w : zm_S} {a1 : Int32} {a2 : Int32} {a3 : Int32} (kt : a3 ≤ (60 : Int32) → zm_T zc_H d mX7_sheet Q 25 [(0, .ref 0), (1, .int a1), (2, .int a2), (3, .int a3)] [] w) (kf : ¬ a3 ≤ (60 : Int32) → zm_T zc_H d mX7_sheet Q 22 [] [] w) : zm_T zc_H d mX7_sheet Q 16 [(0, .ref 0), (1, .int a1), (2, .int a2), (3, .int a3)] [] w := by
  refine zm_iload_n (x := a3) 3 dX7_sheet_16 rfl rfl ?_
  refine zm_bipush dX7_sheet_17 (v := (60 : Int32)) (by decide) ?_
  refine zm_icmp_le 25 dX7_sheet_19 (by decide) (fun h => ?_) (fun h => ?_)
  · exact kt h
  · refine zm_sub [] rfl ?_
    exact kf h
theorem gX7_sheet_22 {d : Nat} {Q : Value → zm_S → Prop} {w : zm_S} (k : Q (.int (-2 : Int32)) w) : zm_T zc_H d mX7_sheet Q 22 [] [] w := by
  refine zm_bipush dX7_sheet_22 (v := (-2 : Int32)) (by decide) ?_
  exact zm_ireturn dX7_sheet_24 rfl k
theorem gX7_sheet_25 {d : Nat} {Q : Value → zm_S → Prop} {w : zm_S} {a1 : Int32} {a2 : Int32} {a3 : Int32} (kt : 0 ≤ a3 → zm_T zc_H d mX7_sheet Q 35 [(0, .ref 0), (1, .int a1), (2, .int a2), (3, .int a3)] [] w) (kf : ¬ 0 ≤ a3 → zm_T zc_H d mX7_sheet Q 29 [(0, .ref 0)] [] w) : zm_T zc_H d mX7_sheet Q 25 [(0, .ref 0), (1, .int a1), (2, .int a2), (3, .int a3)] [] w := by
  refine zm_iload_n (x := a3) 3 dX7_sheet_25 rfl rfl ?_
  refine zm_if_ge 35 dX7_sheet_26 (by decide) (fun h => ?_) (fun h => ?_)
  · exact kt h
  · refine zm_sub [0] rfl ?_
    exact kf h
theorem gX7_sheet_29 {d : Nat} {Q : Value → zm_S → Prop} {w : zm_S} {Q' : Value → zm_S → Prop} (hC : zm_C zc_H d mX7_tellFinding [.ref 0, .int (5 : Int32)] w Q') (k : ∀ (r : Int32) (u : zm_S), Q' (.int r) u → zm_T zc_H (d + 1) mX7_sheet Q 34 [] [.int r] u) : zm_T zc_H (d + 1) mX7_sheet Q 29 [(0, .ref 0)] [] w := by
  refine zm_aload_n (x := 0) 0 dX7_sheet_29 rfl rfl ?_
  refine zm_iconst dX7_sheet_30 (v := (5 : Int32)) (by decide) ?_
  refine zm_callVi (as := [.int (5 : Int32)]) (rest := []) dX7_sheet_31 rfl mtX7_tellFinding lkX7_100 zc_H0 (C := RX7) rfl rfl rfl (Nat.le_of_ble_eq_true rfl) hC rfl (fun r u hq => ?_)
  refine zm_sub [] rfl ?_
  exact k r u hq
theorem gX7_sheet_34 {d : Nat} {Q : Value → zm_S → Prop} {w : zm_S} {s0 : Int32} (k : Q (.int s0) w) : zm_T zc_H d mX7_sheet Q 34 [] [.int s0] w := by
  exact zm_ireturn dX7_sheet_34 rfl k
theorem gX7_sheet_35 {d : Nat} {Q : Value → zm_S → Prop} {w : zm_S} {a1 : Int32} {a2 : Int32} {a3 : Int32} {q40 : Nat} {Q' : Value → zm_S → Prop} (hi40 : vp_in a1 4) (hq40 : ([40, 42, 44, 46] : List Nat)[(a1).toNatClampNeg]? = some q40) (hC : zm_C zc_H d mX5_renew [.ref q40, .int a2, .int a3] w Q') (k : ∀ (u : zm_S), Q' .null u → zm_T zc_H (d + 1) mX7_sheet Q 46 [(3, .int a3)] [] u) : zm_T zc_H (d + 1) mX7_sheet Q 35 [(0, .ref 0), (1, .int a1), (2, .int a2), (3, .int a3)] [] w := by
  refine zm_aload_n (x := 0) 0 dX7_sheet_35 rfl rfl ?_
  refine zm_getf (v := .ref 39) (j := 7) dX7_sheet_36 clX7 flX7_57 (Nat.le_of_ble_eq_true rfl) zc_H0 rfl rfl ?_
  refine zm_iload_n (x := a1) 1 dX7_sheet_39 rfl rfl ?_
  refine zm_aald dX7_sheet_40 zc_H39 hi40 hq40 ?_
  refine zm_iload_n (x := a2) 2 dX7_sheet_41 rfl rfl ?_
  refine zm_iload_n (x := a3) 3 dX7_sheet_42 rfl rfl ?_
  refine zm_callVv (as := [.int a2, .int a3]) (rest := []) dX7_sheet_43 rfl mtX5_renew lkX7_256 (zc_sh_of hq40).1 (C := RX5) rfl rfl rfl (Nat.le_of_ble_eq_true rfl) hC rfl (fun u hq => ?_)
  refine zm_sub [3] rfl ?_
  exact k u hq
theorem gX7_sheet_46 {d : Nat} {Q : Value → zm_S → Prop} {w : zm_S} {a3 : Int32} (k : Q (.int a3) w) : zm_T zc_H d mX7_sheet Q 46 [(3, .int a3)] [] w := by
  refine zm_iload_n (x := a3) 0 dX7_sheet_46 rfl rfl ?_
  exact zm_ireturn dX7_sheet_47 rfl k
theorem gX7_lose_0 {d : Nat} {Q : Value → zm_S → Prop} {w : zm_S} {a1 : Int32} {Q' : Value → zm_S → Prop} (hC : zm_C zc_H d mX7_within [.int a1, .int (4 : Int32)] w Q') (k : ∀ (r : Int32) (u : zm_S), Q' (.int r) u → zm_T zc_H (d + 1) mX7_lose Q 5 [(0, .ref 0), (1, .int a1)] [.int r] u) : zm_T zc_H (d + 1) mX7_lose Q 0 [(0, .ref 0), (1, .int a1)] [] w := by
  refine zm_iload_n (x := a1) 1 dX7_lose_0 rfl rfl ?_
  refine zm_iconst dX7_lose_1 (v := (4 : Int32)) (by decide) ?_
  refine zm_callSz (as := [.int a1, .int (4 : Int32)]) (rest := []) dX7_lose_2 rfl mtX7_within lkX7_62 rfl (Nat.le_of_ble_eq_true rfl) hC rfl (fun r u hq => ?_)
  exact k r u hq
theorem gX7_lose_5 {d : Nat} {Q : Value → zm_S → Prop} {w : zm_S} {a1 : Int32} {s0 : Int32} (kt : ¬ s0 = 0 → zm_T zc_H d mX7_lose Q 11 [(0, .ref 0), (1, .int a1)] [] w) (kf : s0 = 0 → zm_T zc_H d mX7_lose Q 8 [] [] w) : zm_T zc_H d mX7_lose Q 5 [(0, .ref 0), (1, .int a1)] [.int s0] w := by
  refine zm_if_ne 11 dX7_lose_5 (by decide) (fun h => ?_) (fun h => ?_)
  · exact kt h
  · refine zm_sub [] rfl ?_
    exact kf h
theorem gX7_lose_8 {d : Nat} {Q : Value → zm_S → Prop} {w : zm_S} (k : Q (.int (-2 : Int32)) w) : zm_T zc_H d mX7_lose Q 8 [] [] w := by
  refine zm_bipush dX7_lose_8 (v := (-2 : Int32)) (by decide) ?_
  exact zm_ireturn dX7_lose_10 rfl k
theorem gX7_lose_11 {d : Nat} {Q : Value → zm_S → Prop} {w : zm_S} {a1 : Int32} {q16 : Nat} (hi16 : vp_in a1 4) (hq16 : ([40, 42, 44, 46] : List Nat)[(a1).toNatClampNeg]? = some q16) (kt : (w.1 q16 1) = 0 → zm_T zc_H d mX7_lose Q 29 [(0, .ref 0), (1, .int a1)] [] w) (kf : ¬ (w.1 q16 1) = 0 → zm_T zc_H d mX7_lose Q 23 [(0, .ref 0)] [] w) : zm_T zc_H d mX7_lose Q 11 [(0, .ref 0), (1, .int a1)] [] w := by
  refine zm_aload_n (x := 0) 0 dX7_lose_11 rfl rfl ?_
  refine zm_getf (v := .ref 39) (j := 7) dX7_lose_12 clX7 flX7_57 (Nat.le_of_ble_eq_true rfl) zc_H0 rfl rfl ?_
  refine zm_iload_n (x := a1) 1 dX7_lose_15 rfl rfl ?_
  refine zm_aald dX7_lose_16 zc_H39 hi16 hq16 ?_
  refine zm_getf (v := .int (w.1 q16 1)) (j := 1) dX7_lose_17 clX5 flX7_97 (Nat.le_of_ble_eq_true rfl) (zc_sh_of hq16).1 rfl rfl ?_
  refine zm_if_eq 29 dX7_lose_20 (by decide) (fun h => ?_) (fun h => ?_)
  · exact kt h
  · refine zm_sub [0] rfl ?_
    exact kf h
theorem gX7_lose_23 {d : Nat} {Q : Value → zm_S → Prop} {w : zm_S} {Q' : Value → zm_S → Prop} (hC : zm_C zc_H d mX7_tellFinding [.ref 0, .int (1 : Int32)] w Q') (k : ∀ (r : Int32) (u : zm_S), Q' (.int r) u → zm_T zc_H (d + 1) mX7_lose Q 28 [] [.int r] u) : zm_T zc_H (d + 1) mX7_lose Q 23 [(0, .ref 0)] [] w := by
  refine zm_aload_n (x := 0) 0 dX7_lose_23 rfl rfl ?_
  refine zm_iconst dX7_lose_24 (v := (1 : Int32)) (by decide) ?_
  refine zm_callVi (as := [.int (1 : Int32)]) (rest := []) dX7_lose_25 rfl mtX7_tellFinding lkX7_100 zc_H0 (C := RX7) rfl rfl rfl (Nat.le_of_ble_eq_true rfl) hC rfl (fun r u hq => ?_)
  refine zm_sub [] rfl ?_
  exact k r u hq
theorem gX7_lose_28 {d : Nat} {Q : Value → zm_S → Prop} {w : zm_S} {s0 : Int32} (k : Q (.int s0) w) : zm_T zc_H d mX7_lose Q 28 [] [.int s0] w := by
  exact zm_ireturn dX7_lose_28 rfl k
theorem gX7_lose_29 {d : Nat} {Q : Value → zm_S → Prop} {w : zm_S} {a1 : Int32} {q34 : Nat} {q44 : Nat} (hi34 : vp_in a1 4) (hq34 : ([40, 42, 44, 46] : List Nat)[(a1).toNatClampNeg]? = some q34) (hi44 : vp_in a1 4) (hq44 : ([40, 42, 44, 46] : List Nat)[(a1).toNatClampNeg]? = some q44) (k : Q (.int ((zm_pi w q34 1 (1 : Int32)).1 q44 3)) (zm_pi w q34 1 (1 : Int32))) : zm_T zc_H d mX7_lose Q 29 [(0, .ref 0), (1, .int a1)] [] w := by
  refine zm_aload_n (x := 0) 0 dX7_lose_29 rfl rfl ?_
  refine zm_getf (v := .ref 39) (j := 7) dX7_lose_30 clX7 flX7_57 (Nat.le_of_ble_eq_true rfl) zc_H0 rfl rfl ?_
  refine zm_iload_n (x := a1) 1 dX7_lose_33 rfl rfl ?_
  refine zm_aald dX7_lose_34 zc_H39 hi34 hq34 ?_
  refine zm_iconst dX7_lose_35 (v := (1 : Int32)) (by decide) ?_
  refine zm_putf (j := 1) (ty := .boolean) dX7_lose_36 clX5 flX7_97 (Nat.le_of_ble_eq_true rfl) (zc_sh_of hq34).1 rfl rfl (by decide +kernel) rfl (by decide) ?_
  refine zm_aload_n (x := 0) 0 dX7_lose_39 rfl rfl ?_
  refine zm_getf (v := .ref 39) (j := 7) dX7_lose_40 clX7 flX7_57 (Nat.le_of_ble_eq_true rfl) zc_H0 rfl rfl ?_
  refine zm_iload_n (x := a1) 1 dX7_lose_43 rfl rfl ?_
  refine zm_aald dX7_lose_44 zc_H39 hi44 hq44 ?_
  refine zm_getf (v := .int ((zm_pi w q34 1 (1 : Int32)).1 q44 3)) (j := 3) dX7_lose_45 clX5 flX7_104 (Nat.le_of_ble_eq_true rfl) (zc_sh_of hq44).1 rfl rfl ?_
  exact zm_ireturn dX7_lose_48 rfl k
theorem gX7_lay_0 {d : Nat} {Q : Value → zm_S → Prop} {w : zm_S} {a1 : Int32} {a2 : Int32} {a3 : Int32} {a4 : Int32} {Q' : Value → zm_S → Prop} (hC : zm_C zc_H d mX7_within [.int a1, .int (4 : Int32)] w Q') (k : ∀ (r : Int32) (u : zm_S), Q' (.int r) u → zm_T zc_H (d + 1) mX7_lay Q 5 [(0, .ref 0), (1, .int a1), (2, .int a2), (3, .int a3), (4, .int a4)] [.int r] u) : zm_T zc_H (d + 1) mX7_lay Q 0 [(0, .ref 0), (1, .int a1), (2, .int a2), (3, .int a3), (4, .int a4)] [] w := by
  refine zm_iload_n (x := a1) 1 dX7_lay_0 rfl rfl ?_
  refine zm_iconst dX7_lay_1 (v := (4 : Int32)) (by decide) ?_
  refine zm_callSz (as := [.int a1, .int (4 : Int32)]) (rest := []) dX7_lay_2 rfl mtX7_within lkX7_62 rfl (Nat.le_of_ble_eq_true rfl) hC rfl (fun r u hq => ?_)
  exact k r u hq
theorem gX7_lay_5 {d : Nat} {Q : Value → zm_S → Prop} {w : zm_S} {a1 : Int32} {a2 : Int32} {a3 : Int32} {a4 : Int32} {s0 : Int32} (kt : s0 = 0 → zm_T zc_H d mX7_lay Q 16 [] [] w) (kf : ¬ s0 = 0 → zm_T zc_H d mX7_lay Q 8 [(0, .ref 0), (1, .int a1), (2, .int a2), (3, .int a3), (4, .int a4)] [] w) : zm_T zc_H d mX7_lay Q 5 [(0, .ref 0), (1, .int a1), (2, .int a2), (3, .int a3), (4, .int a4)] [.int s0] w := by
  refine zm_if_eq 16 dX7_lay_5 (by decide) (fun h => ?_) (fun h => ?_)
  · refine zm_sub [] rfl ?_
    exact kt h
  · exact kf h
theorem gX7_lay_8 {d : Nat} {Q : Value → zm_S → Prop} {w : zm_S} {a1 : Int32} {a2 : Int32} {a3 : Int32} {a4 : Int32} {Q' : Value → zm_S → Prop} (hC : zm_C zc_H d mX7_within [.int a2, .int (3 : Int32)] w Q') (k : ∀ (r : Int32) (u : zm_S), Q' (.int r) u → zm_T zc_H (d + 1) mX7_lay Q 13 [(0, .ref 0), (1, .int a1), (2, .int a2), (3, .int a3), (4, .int a4)] [.int r] u) : zm_T zc_H (d + 1) mX7_lay Q 8 [(0, .ref 0), (1, .int a1), (2, .int a2), (3, .int a3), (4, .int a4)] [] w := by
  refine zm_iload_n (x := a2) 2 dX7_lay_8 rfl rfl ?_
  refine zm_iconst dX7_lay_9 (v := (3 : Int32)) (by decide) ?_
  refine zm_callSz (as := [.int a2, .int (3 : Int32)]) (rest := []) dX7_lay_10 rfl mtX7_within lkX7_62 rfl (Nat.le_of_ble_eq_true rfl) hC rfl (fun r u hq => ?_)
  exact k r u hq
theorem gX7_lay_13 {d : Nat} {Q : Value → zm_S → Prop} {w : zm_S} {a1 : Int32} {a2 : Int32} {a3 : Int32} {a4 : Int32} {s0 : Int32} (kt : ¬ s0 = 0 → zm_T zc_H d mX7_lay Q 19 [(0, .ref 0), (1, .int a1), (2, .int a2), (3, .int a3), (4, .int a4)] [] w) (kf : s0 = 0 → zm_T zc_H d mX7_lay Q 16 [] [] w) : zm_T zc_H d mX7_lay Q 13 [(0, .ref 0), (1, .int a1), (2, .int a2), (3, .int a3), (4, .int a4)] [.int s0] w := by
  refine zm_if_ne 19 dX7_lay_13 (by decide) (fun h => ?_) (fun h => ?_)
  · exact kt h
  · refine zm_sub [] rfl ?_
    exact kf h
theorem gX7_lay_16 {d : Nat} {Q : Value → zm_S → Prop} {w : zm_S} (k : Q (.int (-2 : Int32)) w) : zm_T zc_H d mX7_lay Q 16 [] [] w := by
  refine zm_bipush dX7_lay_16 (v := (-2 : Int32)) (by decide) ?_
  exact zm_ireturn dX7_lay_18 rfl k
theorem gX7_lay_19 {d : Nat} {Q : Value → zm_S → Prop} {w : zm_S} {a1 : Int32} {a2 : Int32} {a3 : Int32} {a4 : Int32} {q24 : Nat} {Q' : Value → zm_S → Prop} (hi24 : vp_in a1 4) (hq24 : ([40, 42, 44, 46] : List Nat)[(a1).toNatClampNeg]? = some q24) (hC : zm_C zc_H d mX5_findingAt [.ref q24, .int a2, .int a3] w Q') (k : ∀ (r : Int32) (u : zm_S), Q' (.int r) u → zm_T zc_H (d + 1) mX7_lay Q 30 [(0, .ref 0), (1, .int a1), (3, .int a3), (4, .int a4)] [.int r] u) : zm_T zc_H (d + 1) mX7_lay Q 19 [(0, .ref 0), (1, .int a1), (2, .int a2), (3, .int a3), (4, .int a4)] [] w := by
  refine zm_aload_n (x := 0) 0 dX7_lay_19 rfl rfl ?_
  refine zm_getf (v := .ref 39) (j := 7) dX7_lay_20 clX7 flX7_57 (Nat.le_of_ble_eq_true rfl) zc_H0 rfl rfl ?_
  refine zm_iload_n (x := a1) 1 dX7_lay_23 rfl rfl ?_
  refine zm_aald dX7_lay_24 zc_H39 hi24 hq24 ?_
  refine zm_iload_n (x := a2) 2 dX7_lay_25 rfl rfl ?_
  refine zm_iload_n (x := a3) 3 dX7_lay_26 rfl rfl ?_
  refine zm_callVi (as := [.int a2, .int a3]) (rest := []) dX7_lay_27 rfl mtX5_findingAt lkX7_259 (zc_sh_of hq24).1 (C := RX5) rfl rfl rfl (Nat.le_of_ble_eq_true rfl) hC rfl (fun r u hq => ?_)
  refine zm_sub [0, 1, 3, 4] rfl ?_
  exact k r u hq
theorem gX7_lay_30 {d : Nat} {Q : Value → zm_S → Prop} {w : zm_S} {a1 : Int32} {a3 : Int32} {a4 : Int32} {s0 : Int32} (kt : s0 = 0 → zm_T zc_H d mX7_lay Q 44 [(0, .ref 0), (1, .int a1), (3, .int a3), (4, .int a4)] [] w) (kf : ¬ s0 = 0 → zm_T zc_H d mX7_lay Q 37 [(0, .ref 0), (5, .int s0)] [] w) : zm_T zc_H d mX7_lay Q 30 [(0, .ref 0), (1, .int a1), (3, .int a3), (4, .int a4)] [.int s0] w := by
  refine zm_istore dX7_lay_30 (Nat.le_of_ble_eq_true rfl) (ls' := [(5, .int s0), (0, .ref 0), (1, .int a1), (3, .int a3), (4, .int a4)]) rfl ?_
  refine zm_iload (x := s0) 0 dX7_lay_32 rfl ?_
  refine zm_if_eq 44 dX7_lay_34 (by decide) (fun h => ?_) (fun h => ?_)
  · refine zm_sub [1, 2, 3, 4] rfl ?_
    exact kt h
  · refine zm_sub [1, 0] rfl ?_
    exact kf h
theorem gX7_lay_37 {d : Nat} {Q : Value → zm_S → Prop} {w : zm_S} {a5 : Int32} {Q' : Value → zm_S → Prop} (hC : zm_C zc_H d mX7_tellFinding [.ref 0, .int a5] w Q') (k : ∀ (r : Int32) (u : zm_S), Q' (.int r) u → zm_T zc_H (d + 1) mX7_lay Q 43 [] [.int r] u) : zm_T zc_H (d + 1) mX7_lay Q 37 [(0, .ref 0), (5, .int a5)] [] w := by
  refine zm_aload_n (x := 0) 0 dX7_lay_37 rfl rfl ?_
  refine zm_iload (x := a5) 1 dX7_lay_38 rfl ?_
  refine zm_callVi (as := [.int a5]) (rest := []) dX7_lay_40 rfl mtX7_tellFinding lkX7_100 zc_H0 (C := RX7) rfl rfl rfl (Nat.le_of_ble_eq_true rfl) hC rfl (fun r u hq => ?_)
  refine zm_sub [] rfl ?_
  exact k r u hq
theorem gX7_lay_43 {d : Nat} {Q : Value → zm_S → Prop} {w : zm_S} {s0 : Int32} (k : Q (.int s0) w) : zm_T zc_H d mX7_lay Q 43 [] [.int s0] w := by
  exact zm_ireturn dX7_lay_43 rfl k
theorem gX7_lay_44 {d : Nat} {Q : Value → zm_S → Prop} {w : zm_S} {a1 : Int32} {a3 : Int32} {a4 : Int32} {q49 : Nat} {Q' : Value → zm_S → Prop} (hi49 : vp_in a1 4) (hq49 : ([40, 42, 44, 46] : List Nat)[(a1).toNatClampNeg]? = some q49) (hC : zm_C zc_H d mX5_put [.ref q49, .int a3, .int a4] w Q') (k : ∀ (u : zm_S), Q' .null u → zm_T zc_H (d + 1) mX7_lay Q 56 [] [] u) : zm_T zc_H (d + 1) mX7_lay Q 44 [(0, .ref 0), (1, .int a1), (3, .int a3), (4, .int a4)] [] w := by
  refine zm_aload_n (x := 0) 0 dX7_lay_44 rfl rfl ?_
  refine zm_getf (v := .ref 39) (j := 7) dX7_lay_45 clX7 flX7_57 (Nat.le_of_ble_eq_true rfl) zc_H0 rfl rfl ?_
  refine zm_iload_n (x := a1) 1 dX7_lay_48 rfl rfl ?_
  refine zm_aald dX7_lay_49 zc_H39 hi49 hq49 ?_
  refine zm_iload_n (x := a3) 2 dX7_lay_50 rfl rfl ?_
  refine zm_iload (x := a4) 3 dX7_lay_51 rfl ?_
  refine zm_callVv (as := [.int a3, .int a4]) (rest := []) dX7_lay_53 rfl mtX5_put lkX7_262 (zc_sh_of hq49).1 (C := RX5) rfl rfl rfl (Nat.le_of_ble_eq_true rfl) hC rfl (fun u hq => ?_)
  refine zm_sub [] rfl ?_
  exact k u hq
theorem gX7_lay_56 {d : Nat} {Q : Value → zm_S → Prop} {w : zm_S} (k : Q (.int (1 : Int32)) w) : zm_T zc_H d mX7_lay Q 56 [] [] w := by
  refine zm_iconst dX7_lay_56 (v := (1 : Int32)) (by decide) ?_
  exact zm_ireturn dX7_lay_57 rfl k
theorem gX7_get_0 {d : Nat} {Q : Value → zm_S → Prop} {w : zm_S} {a1 : Int32} {a2 : Int32} {a3 : Int32} {Q' : Value → zm_S → Prop} (hC : zm_C zc_H d mX7_within [.int a1, .int (4 : Int32)] w Q') (k : ∀ (r : Int32) (u : zm_S), Q' (.int r) u → zm_T zc_H (d + 1) mX7_get Q 5 [(0, .ref 0), (1, .int a1), (2, .int a2), (3, .int a3)] [.int r] u) : zm_T zc_H (d + 1) mX7_get Q 0 [(0, .ref 0), (1, .int a1), (2, .int a2), (3, .int a3)] [] w := by
  refine zm_iload_n (x := a1) 1 dX7_get_0 rfl rfl ?_
  refine zm_iconst dX7_get_1 (v := (4 : Int32)) (by decide) ?_
  refine zm_callSz (as := [.int a1, .int (4 : Int32)]) (rest := []) dX7_get_2 rfl mtX7_within lkX7_62 rfl (Nat.le_of_ble_eq_true rfl) hC rfl (fun r u hq => ?_)
  exact k r u hq
theorem gX7_get_5 {d : Nat} {Q : Value → zm_S → Prop} {w : zm_S} {a1 : Int32} {a2 : Int32} {a3 : Int32} {s0 : Int32} (kt : s0 = 0 → zm_T zc_H d mX7_get Q 16 [] [] w) (kf : ¬ s0 = 0 → zm_T zc_H d mX7_get Q 8 [(0, .ref 0), (1, .int a1), (2, .int a2), (3, .int a3)] [] w) : zm_T zc_H d mX7_get Q 5 [(0, .ref 0), (1, .int a1), (2, .int a2), (3, .int a3)] [.int s0] w := by
  refine zm_if_eq 16 dX7_get_5 (by decide) (fun h => ?_) (fun h => ?_)
  · refine zm_sub [] rfl ?_
    exact kt h
  · exact kf h
theorem gX7_get_8 {d : Nat} {Q : Value → zm_S → Prop} {w : zm_S} {a1 : Int32} {a2 : Int32} {a3 : Int32} {Q' : Value → zm_S → Prop} (hC : zm_C zc_H d mX7_within [.int a2, .int (3 : Int32)] w Q') (k : ∀ (r : Int32) (u : zm_S), Q' (.int r) u → zm_T zc_H (d + 1) mX7_get Q 13 [(0, .ref 0), (1, .int a1), (2, .int a2), (3, .int a3)] [.int r] u) : zm_T zc_H (d + 1) mX7_get Q 8 [(0, .ref 0), (1, .int a1), (2, .int a2), (3, .int a3)] [] w := by
  refine zm_iload_n (x := a2) 2 dX7_get_8 rfl rfl ?_
  refine zm_iconst dX7_get_9 (v := (3 : Int32)) (by decide) ?_
  refine zm_callSz (as := [.int a2, .int (3 : Int32)]) (rest := []) dX7_get_10 rfl mtX7_within lkX7_62 rfl (Nat.le_of_ble_eq_true rfl) hC rfl (fun r u hq => ?_)
  exact k r u hq
theorem gX7_get_13 {d : Nat} {Q : Value → zm_S → Prop} {w : zm_S} {a1 : Int32} {a2 : Int32} {a3 : Int32} {s0 : Int32} (kt : ¬ s0 = 0 → zm_T zc_H d mX7_get Q 20 [(0, .ref 0), (1, .int a1), (2, .int a2), (3, .int a3)] [] w) (kf : s0 = 0 → zm_T zc_H d mX7_get Q 16 [] [] w) : zm_T zc_H d mX7_get Q 13 [(0, .ref 0), (1, .int a1), (2, .int a2), (3, .int a3)] [.int s0] w := by
  refine zm_if_ne 20 dX7_get_13 (by decide) (fun h => ?_) (fun h => ?_)
  · exact kt h
  · refine zm_sub [] rfl ?_
    exact kf h
theorem gX7_get_16 {d : Nat} {Q : Value → zm_S → Prop} {w : zm_S} (k : Q (.int (-2147483648 : Int32)) w) : zm_T zc_H d mX7_get Q 16 [] [] w := by
  refine zm_ldc_w dX7_get_16 kcX7_265 ?_
  exact zm_ireturn dX7_get_19 rfl k
theorem gX7_get_20 {d : Nat} {Q : Value → zm_S → Prop} {w : zm_S} {a1 : Int32} {a2 : Int32} {a3 : Int32} {q25 : Nat} {Q' : Value → zm_S → Prop} (hi25 : vp_in a1 4) (hq25 : ([40, 42, 44, 46] : List Nat)[(a1).toNatClampNeg]? = some q25) (hC : zm_C zc_H d mX5_findingAt [.ref q25, .int a2, .int a3] w Q') (k : ∀ (r : Int32) (u : zm_S), Q' (.int r) u → zm_T zc_H (d + 1) mX7_get Q 31 [(0, .ref 0), (1, .int a1), (3, .int a3)] [.int r] u) : zm_T zc_H (d + 1) mX7_get Q 20 [(0, .ref 0), (1, .int a1), (2, .int a2), (3, .int a3)] [] w := by
  refine zm_aload_n (x := 0) 0 dX7_get_20 rfl rfl ?_
  refine zm_getf (v := .ref 39) (j := 7) dX7_get_21 clX7 flX7_57 (Nat.le_of_ble_eq_true rfl) zc_H0 rfl rfl ?_
  refine zm_iload_n (x := a1) 1 dX7_get_24 rfl rfl ?_
  refine zm_aald dX7_get_25 zc_H39 hi25 hq25 ?_
  refine zm_iload_n (x := a2) 2 dX7_get_26 rfl rfl ?_
  refine zm_iload_n (x := a3) 3 dX7_get_27 rfl rfl ?_
  refine zm_callVi (as := [.int a2, .int a3]) (rest := []) dX7_get_28 rfl mtX5_findingAt lkX7_259 (zc_sh_of hq25).1 (C := RX5) rfl rfl rfl (Nat.le_of_ble_eq_true rfl) hC rfl (fun r u hq => ?_)
  refine zm_sub [0, 1, 3] rfl ?_
  exact k r u hq
theorem gX7_get_31 {d : Nat} {Q : Value → zm_S → Prop} {w : zm_S} {a1 : Int32} {a3 : Int32} {s0 : Int32} (kt : s0 = 0 → zm_T zc_H d mX7_get Q 48 [(0, .ref 0), (1, .int a1), (3, .int a3)] [] w) (kf : ¬ s0 = 0 → zm_T zc_H d mX7_get Q 38 [(0, .ref 0), (4, .int s0)] [] w) : zm_T zc_H d mX7_get Q 31 [(0, .ref 0), (1, .int a1), (3, .int a3)] [.int s0] w := by
  refine zm_istore dX7_get_31 (Nat.le_of_ble_eq_true rfl) (ls' := [(4, .int s0), (0, .ref 0), (1, .int a1), (3, .int a3)]) rfl ?_
  refine zm_iload (x := s0) 0 dX7_get_33 rfl ?_
  refine zm_if_eq 48 dX7_get_35 (by decide) (fun h => ?_) (fun h => ?_)
  · refine zm_sub [1, 2, 3] rfl ?_
    exact kt h
  · refine zm_sub [1, 0] rfl ?_
    exact kf h
theorem gX7_get_38 {d : Nat} {Q : Value → zm_S → Prop} {w : zm_S} {a4 : Int32} (k : Q (.int (-2147483648 : Int32)) (zm_pi w 0 8 a4)) : zm_T zc_H d mX7_get Q 38 [(0, .ref 0), (4, .int a4)] [] w := by
  refine zm_aload_n (x := 0) 0 dX7_get_38 rfl rfl ?_
  refine zm_iload (x := a4) 1 dX7_get_39 rfl ?_
  refine zm_putf (j := 8) (ty := .int) dX7_get_41 clX7 flX7_266 (Nat.le_of_ble_eq_true rfl) zc_H0 rfl rfl (by decide +kernel) rfl rfl ?_
  refine zm_ldc_w dX7_get_44 kcX7_265 ?_
  exact zm_ireturn dX7_get_47 rfl k
theorem gX7_get_48 {d : Nat} {Q : Value → zm_S → Prop} {w : zm_S} {a1 : Int32} {a3 : Int32} {q53 : Nat} (hi53 : vp_in a1 4) (hq53 : ([40, 42, 44, 46] : List Nat)[(a1).toNatClampNeg]? = some q53) (hi58 : vp_in a3 60) (k : Q (.int (w.1 (q53 + 1) (a3).toNatClampNeg)) w) : zm_T zc_H d mX7_get Q 48 [(0, .ref 0), (1, .int a1), (3, .int a3)] [] w := by
  refine zm_aload_n (x := 0) 0 dX7_get_48 rfl rfl ?_
  refine zm_getf (v := .ref 39) (j := 7) dX7_get_49 clX7 flX7_57 (Nat.le_of_ble_eq_true rfl) zc_H0 rfl rfl ?_
  refine zm_iload_n (x := a1) 1 dX7_get_52 rfl rfl ?_
  refine zm_aald dX7_get_53 zc_H39 hi53 hq53 ?_
  refine zm_getf (v := .ref (q53 + 1)) (j := 0) dX7_get_54 clX5 flX7_113 (Nat.le_of_ble_eq_true rfl) (zc_sh_of hq53).1 rfl rfl ?_
  refine zm_iload_n (x := a3) 2 dX7_get_57 rfl rfl ?_
  refine zm_iald dX7_get_58 (zc_sh_of hq53).2 hi58 ?_
  exact zm_ireturn dX7_get_59 rfl k
theorem gX7_copy_0 {d : Nat} {Q : Value → zm_S → Prop} {w : zm_S} {a1 : Int32} {a2 : Int32} {a3 : Int32} {a4 : Int32} {a5 : Int32} {Q' : Value → zm_S → Prop} (hC : zm_C zc_H d mX7_within [.int a1, .int (4 : Int32)] w Q') (k : ∀ (r : Int32) (u : zm_S), Q' (.int r) u → zm_T zc_H (d + 1) mX7_copy Q 5 [(0, .ref 0), (1, .int a1), (2, .int a2), (3, .int a3), (4, .int a4), (5, .int a5)] [.int r] u) : zm_T zc_H (d + 1) mX7_copy Q 0 [(0, .ref 0), (1, .int a1), (2, .int a2), (3, .int a3), (4, .int a4), (5, .int a5)] [] w := by
  refine zm_iload_n (x := a1) 1 dX7_copy_0 rfl rfl ?_
  refine zm_iconst dX7_copy_1 (v := (4 : Int32)) (by decide) ?_
  refine zm_callSz (as := [.int a1, .int (4 : Int32)]) (rest := []) dX7_copy_2 rfl mtX7_within lkX7_62 rfl (Nat.le_of_ble_eq_true rfl) hC rfl (fun r u hq => ?_)
  exact k r u hq
theorem gX7_copy_5 {d : Nat} {Q : Value → zm_S → Prop} {w : zm_S} {a1 : Int32} {a2 : Int32} {a3 : Int32} {a4 : Int32} {a5 : Int32} {s0 : Int32} (kt : s0 = 0 → zm_T zc_H d mX7_copy Q 16 [] [] w) (kf : ¬ s0 = 0 → zm_T zc_H d mX7_copy Q 8 [(0, .ref 0), (1, .int a1), (2, .int a2), (3, .int a3), (4, .int a4), (5, .int a5)] [] w) : zm_T zc_H d mX7_copy Q 5 [(0, .ref 0), (1, .int a1), (2, .int a2), (3, .int a3), (4, .int a4), (5, .int a5)] [.int s0] w := by
  refine zm_if_eq 16 dX7_copy_5 (by decide) (fun h => ?_) (fun h => ?_)
  · refine zm_sub [] rfl ?_
    exact kt h
  · exact kf h
theorem gX7_copy_8 {d : Nat} {Q : Value → zm_S → Prop} {w : zm_S} {a1 : Int32} {a2 : Int32} {a3 : Int32} {a4 : Int32} {a5 : Int32} {Q' : Value → zm_S → Prop} (hC : zm_C zc_H d mX7_within [.int a3, .int (4 : Int32)] w Q') (k : ∀ (r : Int32) (u : zm_S), Q' (.int r) u → zm_T zc_H (d + 1) mX7_copy Q 13 [(0, .ref 0), (1, .int a1), (2, .int a2), (3, .int a3), (4, .int a4), (5, .int a5)] [.int r] u) : zm_T zc_H (d + 1) mX7_copy Q 8 [(0, .ref 0), (1, .int a1), (2, .int a2), (3, .int a3), (4, .int a4), (5, .int a5)] [] w := by
  refine zm_iload_n (x := a3) 3 dX7_copy_8 rfl rfl ?_
  refine zm_iconst dX7_copy_9 (v := (4 : Int32)) (by decide) ?_
  refine zm_callSz (as := [.int a3, .int (4 : Int32)]) (rest := []) dX7_copy_10 rfl mtX7_within lkX7_62 rfl (Nat.le_of_ble_eq_true rfl) hC rfl (fun r u hq => ?_)
  exact k r u hq
theorem gX7_copy_13 {d : Nat} {Q : Value → zm_S → Prop} {w : zm_S} {a1 : Int32} {a2 : Int32} {a3 : Int32} {a4 : Int32} {a5 : Int32} {s0 : Int32} (kt : ¬ s0 = 0 → zm_T zc_H d mX7_copy Q 19 [(0, .ref 0), (1, .int a1), (2, .int a2), (3, .int a3), (4, .int a4), (5, .int a5)] [] w) (kf : s0 = 0 → zm_T zc_H d mX7_copy Q 16 [] [] w) : zm_T zc_H d mX7_copy Q 13 [(0, .ref 0), (1, .int a1), (2, .int a2), (3, .int a3), (4, .int a4), (5, .int a5)] [.int s0] w := by
  refine zm_if_ne 19 dX7_copy_13 (by decide) (fun h => ?_) (fun h => ?_)
  · exact kt h
  · refine zm_sub [] rfl ?_
    exact kf h
theorem gX7_copy_16 {d : Nat} {Q : Value → zm_S → Prop} {w : zm_S} (k : Q (.int (-2 : Int32)) w) : zm_T zc_H d mX7_copy Q 16 [] [] w := by
  refine zm_bipush dX7_copy_16 (v := (-2 : Int32)) (by decide) ?_
  exact zm_ireturn dX7_copy_18 rfl k
theorem gX7_copy_19 {d : Nat} {Q : Value → zm_S → Prop} {w : zm_S} {a1 : Int32} {a2 : Int32} {a3 : Int32} {a4 : Int32} {a5 : Int32} {q24 : Nat} {q32 : Nat} (hi24 : vp_in a1 4) (hq24 : ([40, 42, 44, 46] : List Nat)[(a1).toNatClampNeg]? = some q24) (hi32 : vp_in a3 4) (hq32 : ([40, 42, 44, 46] : List Nat)[(a3).toNatClampNeg]? = some q32) (kt : ¬ (w.1 q24 1) = 0 → zm_T zc_H d mX7_copy Q 51 [(0, .ref 0)] [] w) (kf : (w.1 q24 1) = 0 → zm_T zc_H d mX7_copy Q 43 [(0, .ref 0), (2, .int a2), (4, .int a4), (5, .int a5), (6, .ref q24), (7, .ref q32)] [] w) : zm_T zc_H d mX7_copy Q 19 [(0, .ref 0), (1, .int a1), (2, .int a2), (3, .int a3), (4, .int a4), (5, .int a5)] [] w := by
  refine zm_aload_n (x := 0) 0 dX7_copy_19 rfl rfl ?_
  refine zm_getf (v := .ref 39) (j := 7) dX7_copy_20 clX7 flX7_57 (Nat.le_of_ble_eq_true rfl) zc_H0 rfl rfl ?_
  refine zm_iload_n (x := a1) 1 dX7_copy_23 rfl rfl ?_
  refine zm_aald dX7_copy_24 zc_H39 hi24 hq24 ?_
  refine zm_astore dX7_copy_25 (Nat.le_of_ble_eq_true rfl) (ls' := [(6, .ref q24), (0, .ref 0), (1, .int a1), (2, .int a2), (3, .int a3), (4, .int a4), (5, .int a5)]) rfl ?_
  refine zm_aload_n (x := 0) 1 dX7_copy_27 rfl rfl ?_
  refine zm_getf (v := .ref 39) (j := 7) dX7_copy_28 clX7 flX7_57 (Nat.le_of_ble_eq_true rfl) zc_H0 rfl rfl ?_
  refine zm_iload_n (x := a3) 4 dX7_copy_31 rfl rfl ?_
  refine zm_aald dX7_copy_32 zc_H39 hi32 hq32 ?_
  refine zm_astore dX7_copy_33 (Nat.le_of_ble_eq_true rfl) (ls' := [(7, .ref q32), (6, .ref q24), (0, .ref 0), (1, .int a1), (2, .int a2), (3, .int a3), (4, .int a4), (5, .int a5)]) rfl ?_
  refine zm_aload (x := q24) 1 dX7_copy_35 rfl ?_
  refine zm_getf (v := .int (w.1 q24 1)) (j := 1) dX7_copy_37 clX5 flX7_97 (Nat.le_of_ble_eq_true rfl) (zc_sh_of hq24).1 rfl rfl ?_
  refine zm_if_ne 51 dX7_copy_40 (by decide) (fun h => ?_) (fun h => ?_)
  · refine zm_sub [2] rfl ?_
    exact kt h
  · refine zm_sub [2, 4, 6, 7, 1, 0] rfl ?_
    exact kf h
theorem gX7_copy_43 {d : Nat} {Q : Value → zm_S → Prop} {w : zm_S} {a2 : Int32} {a4 : Int32} {a5 : Int32} {oa6 : Nat} {oa7 : Nat} (hoa6 : zc_sh oa6) (hoa7 : zc_sh oa7) (kt : (w.1 oa7 1) = 0 → zm_T zc_H d mX7_copy Q 57 [(0, .ref 0), (2, .int a2), (4, .int a4), (5, .int a5), (6, .ref oa6), (7, .ref oa7)] [] w) (kf : ¬ (w.1 oa7 1) = 0 → zm_T zc_H d mX7_copy Q 51 [(0, .ref 0)] [] w) : zm_T zc_H d mX7_copy Q 43 [(0, .ref 0), (2, .int a2), (4, .int a4), (5, .int a5), (6, .ref oa6), (7, .ref oa7)] [] w := by
  refine zm_aload (x := oa7) 5 dX7_copy_43 rfl ?_
  refine zm_getf (v := .int (w.1 oa7 1)) (j := 1) dX7_copy_45 clX5 flX7_97 (Nat.le_of_ble_eq_true rfl) hoa7.1 rfl rfl ?_
  refine zm_if_eq 57 dX7_copy_48 (by decide) (fun h => ?_) (fun h => ?_)
  · exact kt h
  · refine zm_sub [0] rfl ?_
    exact kf h
theorem gX7_copy_51 {d : Nat} {Q : Value → zm_S → Prop} {w : zm_S} {Q' : Value → zm_S → Prop} (hC : zm_C zc_H d mX7_tellFinding [.ref 0, .int (1 : Int32)] w Q') (k : ∀ (r : Int32) (u : zm_S), Q' (.int r) u → zm_T zc_H (d + 1) mX7_copy Q 56 [] [.int r] u) : zm_T zc_H (d + 1) mX7_copy Q 51 [(0, .ref 0)] [] w := by
  refine zm_aload_n (x := 0) 0 dX7_copy_51 rfl rfl ?_
  refine zm_iconst dX7_copy_52 (v := (1 : Int32)) (by decide) ?_
  refine zm_callVi (as := [.int (1 : Int32)]) (rest := []) dX7_copy_53 rfl mtX7_tellFinding lkX7_100 zc_H0 (C := RX7) rfl rfl rfl (Nat.le_of_ble_eq_true rfl) hC rfl (fun r u hq => ?_)
  refine zm_sub [] rfl ?_
  exact k r u hq
theorem gX7_copy_56 {d : Nat} {Q : Value → zm_S → Prop} {w : zm_S} {s0 : Int32} (k : Q (.int s0) w) : zm_T zc_H d mX7_copy Q 56 [] [.int s0] w := by
  exact zm_ireturn dX7_copy_56 rfl k
theorem gX7_copy_57 {d : Nat} {Q : Value → zm_S → Prop} {w : zm_S} {a2 : Int32} {a4 : Int32} {a5 : Int32} {oa6 : Nat} {oa7 : Nat} (hoa6 : zc_sh oa6) (hoa7 : zc_sh oa7) (kt : (w.1 oa6 2) = (w.1 oa7 2) → zm_T zc_H d mX7_copy Q 76 [(0, .ref 0), (2, .int a2), (4, .int a4), (5, .int a5), (6, .ref oa6), (7, .ref oa7)] [] w) (kf : ¬ (w.1 oa6 2) = (w.1 oa7 2) → zm_T zc_H d mX7_copy Q 70 [(0, .ref 0)] [] w) : zm_T zc_H d mX7_copy Q 57 [(0, .ref 0), (2, .int a2), (4, .int a4), (5, .int a5), (6, .ref oa6), (7, .ref oa7)] [] w := by
  refine zm_aload (x := oa6) 4 dX7_copy_57 rfl ?_
  refine zm_getf (v := .int (w.1 oa6 2)) (j := 2) dX7_copy_59 clX5 flX7_269 (Nat.le_of_ble_eq_true rfl) hoa6.1 rfl rfl ?_
  refine zm_aload (x := oa7) 5 dX7_copy_62 rfl ?_
  refine zm_getf (v := .int (w.1 oa7 2)) (j := 2) dX7_copy_64 clX5 flX7_269 (Nat.le_of_ble_eq_true rfl) hoa7.1 rfl rfl ?_
  refine zm_icmp_eq 76 dX7_copy_67 (by decide) (fun h => ?_) (fun h => ?_)
  · exact kt h
  · refine zm_sub [0] rfl ?_
    exact kf h
theorem gX7_copy_70 {d : Nat} {Q : Value → zm_S → Prop} {w : zm_S} {Q' : Value → zm_S → Prop} (hC : zm_C zc_H d mX7_tellFinding [.ref 0, .int (4 : Int32)] w Q') (k : ∀ (r : Int32) (u : zm_S), Q' (.int r) u → zm_T zc_H (d + 1) mX7_copy Q 75 [] [.int r] u) : zm_T zc_H (d + 1) mX7_copy Q 70 [(0, .ref 0)] [] w := by
  refine zm_aload_n (x := 0) 0 dX7_copy_70 rfl rfl ?_
  refine zm_iconst dX7_copy_71 (v := (4 : Int32)) (by decide) ?_
  refine zm_callVi (as := [.int (4 : Int32)]) (rest := []) dX7_copy_72 rfl mtX7_tellFinding lkX7_100 zc_H0 (C := RX7) rfl rfl rfl (Nat.le_of_ble_eq_true rfl) hC rfl (fun r u hq => ?_)
  refine zm_sub [] rfl ?_
  exact k r u hq
theorem gX7_copy_75 {d : Nat} {Q : Value → zm_S → Prop} {w : zm_S} {s0 : Int32} (k : Q (.int s0) w) : zm_T zc_H d mX7_copy Q 75 [] [.int s0] w := by
  exact zm_ireturn dX7_copy_75 rfl k
theorem gX7_copy_76 {d : Nat} {Q : Value → zm_S → Prop} {w : zm_S} {a2 : Int32} {a4 : Int32} {a5 : Int32} {oa6 : Nat} {oa7 : Nat} {Q' : Value → zm_S → Prop} (hoa6 : zc_sh oa6) (hoa7 : zc_sh oa7) (hC : zm_C zc_H d mX5_hasRange [.ref oa6, .int a2, .int a5] w Q') (k : ∀ (r : Int32) (u : zm_S), Q' (.int r) u → zm_T zc_H (d + 1) mX7_copy Q 84 [(0, .ref 0), (2, .int a2), (4, .int a4), (5, .int a5), (6, .ref oa6), (7, .ref oa7)] [.int r] u) : zm_T zc_H (d + 1) mX7_copy Q 76 [(0, .ref 0), (2, .int a2), (4, .int a4), (5, .int a5), (6, .ref oa6), (7, .ref oa7)] [] w := by
  refine zm_aload (x := oa6) 4 dX7_copy_76 rfl ?_
  refine zm_iload_n (x := a2) 1 dX7_copy_78 rfl rfl ?_
  refine zm_iload (x := a5) 3 dX7_copy_79 rfl ?_
  refine zm_callVz (as := [.int a2, .int a5]) (rest := []) dX7_copy_81 rfl mtX5_hasRange lkX7_272 hoa6.1 (C := RX5) rfl rfl rfl (Nat.le_of_ble_eq_true rfl) hC rfl (fun r u hq => ?_)
  exact k r u hq
theorem gX7_copy_84 {d : Nat} {Q : Value → zm_S → Prop} {w : zm_S} {a2 : Int32} {a4 : Int32} {a5 : Int32} {oa6 : Nat} {oa7 : Nat} {s0 : Int32} (hoa6 : zc_sh oa6) (hoa7 : zc_sh oa7) (kt : s0 = 0 → zm_T zc_H d mX7_copy Q 99 [(0, .ref 0)] [] w) (kf : ¬ s0 = 0 → zm_T zc_H d mX7_copy Q 87 [(0, .ref 0), (2, .int a2), (4, .int a4), (5, .int a5), (6, .ref oa6), (7, .ref oa7)] [] w) : zm_T zc_H d mX7_copy Q 84 [(0, .ref 0), (2, .int a2), (4, .int a4), (5, .int a5), (6, .ref oa6), (7, .ref oa7)] [.int s0] w := by
  refine zm_if_eq 99 dX7_copy_84 (by decide) (fun h => ?_) (fun h => ?_)
  · refine zm_sub [0] rfl ?_
    exact kt h
  · exact kf h
theorem gX7_copy_87 {d : Nat} {Q : Value → zm_S → Prop} {w : zm_S} {a2 : Int32} {a4 : Int32} {a5 : Int32} {oa6 : Nat} {oa7 : Nat} {Q' : Value → zm_S → Prop} (hoa6 : zc_sh oa6) (hoa7 : zc_sh oa7) (hC : zm_C zc_H d mX5_hasRange [.ref oa7, .int a4, .int a5] w Q') (k : ∀ (r : Int32) (u : zm_S), Q' (.int r) u → zm_T zc_H (d + 1) mX7_copy Q 96 [(0, .ref 0), (2, .int a2), (4, .int a4), (5, .int a5), (6, .ref oa6), (7, .ref oa7)] [.int r] u) : zm_T zc_H (d + 1) mX7_copy Q 87 [(0, .ref 0), (2, .int a2), (4, .int a4), (5, .int a5), (6, .ref oa6), (7, .ref oa7)] [] w := by
  refine zm_aload (x := oa7) 5 dX7_copy_87 rfl ?_
  refine zm_iload (x := a4) 2 dX7_copy_89 rfl ?_
  refine zm_iload (x := a5) 3 dX7_copy_91 rfl ?_
  refine zm_callVz (as := [.int a4, .int a5]) (rest := []) dX7_copy_93 rfl mtX5_hasRange lkX7_272 hoa7.1 (C := RX5) rfl rfl rfl (Nat.le_of_ble_eq_true rfl) hC rfl (fun r u hq => ?_)
  exact k r u hq
theorem gX7_copy_96 {d : Nat} {Q : Value → zm_S → Prop} {w : zm_S} {a2 : Int32} {a4 : Int32} {a5 : Int32} {oa6 : Nat} {oa7 : Nat} {s0 : Int32} (hoa6 : zc_sh oa6) (hoa7 : zc_sh oa7) (kt : ¬ s0 = 0 → zm_T zc_H d mX7_copy Q 105 [(2, .int a2), (4, .int a4), (5, .int a5), (6, .ref oa6), (7, .ref oa7)] [] w) (kf : s0 = 0 → zm_T zc_H d mX7_copy Q 99 [(0, .ref 0)] [] w) : zm_T zc_H d mX7_copy Q 96 [(0, .ref 0), (2, .int a2), (4, .int a4), (5, .int a5), (6, .ref oa6), (7, .ref oa7)] [.int s0] w := by
  refine zm_if_ne 105 dX7_copy_96 (by decide) (fun h => ?_) (fun h => ?_)
  · refine zm_sub [1, 2, 3, 4, 5] rfl ?_
    exact kt h
  · refine zm_sub [0] rfl ?_
    exact kf h
theorem gX7_copy_99 {d : Nat} {Q : Value → zm_S → Prop} {w : zm_S} {Q' : Value → zm_S → Prop} (hC : zm_C zc_H d mX7_tellFinding [.ref 0, .int (2 : Int32)] w Q') (k : ∀ (r : Int32) (u : zm_S), Q' (.int r) u → zm_T zc_H (d + 1) mX7_copy Q 104 [] [.int r] u) : zm_T zc_H (d + 1) mX7_copy Q 99 [(0, .ref 0)] [] w := by
  refine zm_aload_n (x := 0) 0 dX7_copy_99 rfl rfl ?_
  refine zm_iconst dX7_copy_100 (v := (2 : Int32)) (by decide) ?_
  refine zm_callVi (as := [.int (2 : Int32)]) (rest := []) dX7_copy_101 rfl mtX7_tellFinding lkX7_100 zc_H0 (C := RX7) rfl rfl rfl (Nat.le_of_ble_eq_true rfl) hC rfl (fun r u hq => ?_)
  refine zm_sub [] rfl ?_
  exact k r u hq
theorem gX7_copy_104 {d : Nat} {Q : Value → zm_S → Prop} {w : zm_S} {s0 : Int32} (k : Q (.int s0) w) : zm_T zc_H d mX7_copy Q 104 [] [.int s0] w := by
  exact zm_ireturn dX7_copy_104 rfl k
theorem gX7_copy_105 {d : Nat} {Q : Value → zm_S → Prop} {w : zm_S} {a2 : Int32} {a4 : Int32} {a5 : Int32} {oa6 : Nat} {oa7 : Nat} (hoa6 : zc_sh oa6) (hoa7 : zc_sh oa7) (h1 : ¬ a2 < 0) (h2 : ¬ a4 < 0) (h3 : ¬ a5 < 0) (h4 : (a2).toNatClampNeg + (a5).toNatClampNeg ≤ 60) (h5 : (a4).toNatClampNeg + (a5).toNatClampNeg ≤ 60) (k : Q (.int (1 : Int32)) (zm_pa w (oa7 + 1) (va_cpy (w.1 (oa6 + 1)) (w.1 (oa7 + 1)) (a2).toNatClampNeg (a4).toNatClampNeg (a5).toNatClampNeg))) : zm_T zc_H d mX7_copy Q 105 [(2, .int a2), (4, .int a4), (5, .int a5), (6, .ref oa6), (7, .ref oa7)] [] w := by
  refine zm_aload (x := oa6) 3 dX7_copy_105 rfl ?_
  refine zm_getf (v := .ref (oa6 + 1)) (j := 0) dX7_copy_107 clX5 flX7_113 (Nat.le_of_ble_eq_true rfl) hoa6.1 rfl rfl ?_
  refine zm_iload_n (x := a2) 0 dX7_copy_110 rfl rfl ?_
  refine zm_aload (x := oa7) 4 dX7_copy_111 rfl ?_
  refine zm_getf (v := .ref (oa7 + 1)) (j := 0) dX7_copy_113 clX5 flX7_113 (Nat.le_of_ble_eq_true rfl) hoa7.1 rfl rfl ?_
  refine zm_iload (x := a4) 1 dX7_copy_116 rfl ?_
  refine zm_iload (x := a5) 2 dX7_copy_118 rfl ?_
  refine zm_copy dX7_copy_120 lkX7_275 ⟨zm_acn, zm_acs, zm_aci⟩ hoa6.2 hoa7.2 h1 h2 h3 h4 h5 (Nat.le_of_ble_eq_true rfl) ?_
  refine zm_iconst dX7_copy_123 (v := (1 : Int32)) (by decide) ?_
  exact zm_ireturn dX7_copy_124 rfl k
theorem gX7_write_0 {d : Nat} {Q : Value → zm_S → Prop} {w : zm_S} {a1 : Int32} {Q' : Value → zm_S → Prop} (hC : zm_C zc_H d mX7_within [.int a1, .int (4 : Int32)] w Q') (k : ∀ (r : Int32) (u : zm_S), Q' (.int r) u → zm_T zc_H (d + 1) mX7_write Q 5 [(0, .ref 0), (1, .int a1)] [.int r] u) : zm_T zc_H (d + 1) mX7_write Q 0 [(0, .ref 0), (1, .int a1)] [] w := by
  refine zm_iload_n (x := a1) 1 dX7_write_0 rfl rfl ?_
  refine zm_iconst dX7_write_1 (v := (4 : Int32)) (by decide) ?_
  refine zm_callSz (as := [.int a1, .int (4 : Int32)]) (rest := []) dX7_write_2 rfl mtX7_within lkX7_62 rfl (Nat.le_of_ble_eq_true rfl) hC rfl (fun r u hq => ?_)
  exact k r u hq
theorem gX7_write_5 {d : Nat} {Q : Value → zm_S → Prop} {w : zm_S} {a1 : Int32} {s0 : Int32} (kt : ¬ s0 = 0 → zm_T zc_H d mX7_write Q 11 [(0, .ref 0), (1, .int a1)] [] w) (kf : s0 = 0 → zm_T zc_H d mX7_write Q 8 [] [] w) : zm_T zc_H d mX7_write Q 5 [(0, .ref 0), (1, .int a1)] [.int s0] w := by
  refine zm_if_ne 11 dX7_write_5 (by decide) (fun h => ?_) (fun h => ?_)
  · exact kt h
  · refine zm_sub [] rfl ?_
    exact kf h
