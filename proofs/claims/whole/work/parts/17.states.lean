theorem gX6_begin_0 {d : Nat} {Q : Value → zm_S → Prop} {w : zm_S} {a1 : Int32} (k : Q .null (zm_pi (zm_pi w 23 5 a1) 23 6 (((1 : Int32) <<< (a1 &&& 31)) - (1 : Int32)))) : zm_T zc_H d mX6_begin Q 0 [(0, .ref 23), (1, .int a1)] [] w := by
  refine zm_aload_n (x := 23) 0 dX6_begin_0 rfl rfl ?_
  refine zm_iload_n (x := a1) 1 dX6_begin_1 rfl rfl ?_
  refine zm_putf (j := 5) (ty := .int) dX6_begin_2 clX6 flX6_25 (Nat.le_of_ble_eq_true rfl) zc_H23 rfl rfl (by decide +kernel) rfl rfl ?_
  refine zm_aload_n (x := 23) 0 dX6_begin_5 rfl rfl ?_
  refine zm_iconst dX6_begin_6 (v := (1 : Int32)) (by decide) ?_
  refine zm_aload_n (x := 23) 0 dX6_begin_7 rfl rfl ?_
  refine zm_getf (v := .int a1) (j := 5) dX6_begin_8 clX6 flX6_25 (Nat.le_of_ble_eq_true rfl) zc_H23 rfl rfl ?_
  refine zm_ishl dX6_begin_11 ?_
  refine zm_iconst dX6_begin_12 (v := (1 : Int32)) (by decide) ?_
  refine zm_isub dX6_begin_13 ?_
  refine zm_putf (j := 6) (ty := .int) dX6_begin_14 clX6 flX6_29 (Nat.le_of_ble_eq_true rfl) zc_H23 rfl rfl (by decide +kernel) rfl rfl ?_
  exact zm_return dX6_begin_17 rfl k
theorem gX6_gather_0 {d : Nat} {Q : Value → zm_S → Prop} {w : zm_S} (k : zm_T zc_H d mX6_gather Q 7 [(0, .ref 23), (1, .int (0 : Int32))] [] (zm_pi w 23 7 (0 : Int32))) : zm_T zc_H d mX6_gather Q 0 [(0, .ref 23)] [] w := by
  refine zm_aload_n (x := 23) 0 dX6_gather_0 rfl rfl ?_
  refine zm_iconst dX6_gather_1 (v := (0 : Int32)) (by decide) ?_
  refine zm_putf (j := 7) (ty := .int) dX6_gather_2 clX6 flX6_32 (Nat.le_of_ble_eq_true rfl) zc_H23 rfl rfl (by decide +kernel) rfl rfl ?_
  refine zm_iconst dX6_gather_5 (v := (0 : Int32)) (by decide) ?_
  refine zm_istore_n dX6_gather_6 rfl (Nat.le_of_ble_eq_true rfl) (ls' := [(1, .int (0 : Int32)), (0, .ref 23)]) rfl ?_
  refine zm_sub [1, 0] rfl ?_
  exact k
theorem gX6_gather_7 {d : Nat} {Q : Value → zm_S → Prop} {w : zm_S} {a1 : Int32} (kt : (w.1 23 6) < a1 → zm_T zc_H d mX6_gather Q 61 [(0, .ref 23)] [] w) (kf : ¬ (w.1 23 6) < a1 → zm_T zc_H d mX6_gather Q 15 [(0, .ref 23), (1, .int a1)] [] w) : zm_T zc_H d mX6_gather Q 7 [(0, .ref 23), (1, .int a1)] [] w := by
  refine zm_iload_n (x := a1) 1 dX6_gather_7 rfl rfl ?_
  refine zm_aload_n (x := 23) 0 dX6_gather_8 rfl rfl ?_
  refine zm_getf (v := .int (w.1 23 6)) (j := 6) dX6_gather_9 clX6 flX6_29 (Nat.le_of_ble_eq_true rfl) zc_H23 rfl rfl ?_
  refine zm_icmp_gt 61 dX6_gather_12 (by decide) (fun h => ?_) (fun h => ?_)
  · refine zm_sub [0] rfl ?_
    exact kt h
  · exact kf h
theorem gX6_gather_15 {d : Nat} {Q : Value → zm_S → Prop} {w : zm_S} {a1 : Int32} {Q' : Value → zm_S → Prop} (hC : zm_C zc_H d mX6_holdsNeeds [.ref 23, .int a1] w Q') (k : ∀ (r : Int32) (u : zm_S), Q' (.int r) u → zm_T zc_H (d + 1) mX6_gather Q 25 [(0, .ref 23), (1, .int a1)] [.int r, .int a1, .ref 25] u) : zm_T zc_H (d + 1) mX6_gather Q 15 [(0, .ref 23), (1, .int a1)] [] w := by
  refine zm_aload_n (x := 23) 0 dX6_gather_15 rfl rfl ?_
  refine zm_getf (v := .ref 25) (j := 1) dX6_gather_16 clX6 flX6_15 (Nat.le_of_ble_eq_true rfl) zc_H23 rfl rfl ?_
  refine zm_iload_n (x := a1) 1 dX6_gather_19 rfl rfl ?_
  refine zm_aload_n (x := 23) 0 dX6_gather_20 rfl rfl ?_
  refine zm_iload_n (x := a1) 1 dX6_gather_21 rfl rfl ?_
  refine zm_callVz (as := [.int a1]) (rest := [.int a1, .ref 25]) dX6_gather_22 rfl mtX6_holdsNeeds lkX6_35 zc_H23 (C := RX6) rfl rfl rfl (Nat.le_of_ble_eq_true rfl) hC rfl (fun r u hq => ?_)
  exact k r u hq
theorem gX6_gather_25 {d : Nat} {Q : Value → zm_S → Prop} {w : zm_S} {a1 : Int32} {s0 : Int32} {s1 : Int32} (hi25 : vp_in s1 128) (hi31 : vp_in a1 128) (kt : ((zm_pi w 25 (s1).toNatClampNeg (vp_nar .boolean s0)).1 25 (a1).toNatClampNeg) = 0 → zm_T zc_H d mX6_gather Q 55 [(0, .ref 23), (1, .int a1)] [] (zm_pi w 25 (s1).toNatClampNeg (vp_nar .boolean s0))) (kf : ¬ ((zm_pi w 25 (s1).toNatClampNeg (vp_nar .boolean s0)).1 25 (a1).toNatClampNeg) = 0 → zm_T zc_H d mX6_gather Q 35 [(0, .ref 23), (1, .int a1)] [] (zm_pi w 25 (s1).toNatClampNeg (vp_nar .boolean s0))) : zm_T zc_H d mX6_gather Q 25 [(0, .ref 23), (1, .int a1)] [.int s0, .int s1, .ref 25] w := by
  refine zm_zast dX6_gather_25 zc_H25 hi25 ?_
  refine zm_aload_n (x := 23) 0 dX6_gather_26 rfl rfl ?_
  refine zm_getf (v := .ref 25) (j := 1) dX6_gather_27 clX6 flX6_15 (Nat.le_of_ble_eq_true rfl) zc_H23 rfl rfl ?_
  refine zm_iload_n (x := a1) 1 dX6_gather_30 rfl rfl ?_
  refine zm_zald dX6_gather_31 zc_H25 hi31 ?_
  refine zm_if_eq 55 dX6_gather_32 (by decide) (fun h => ?_) (fun h => ?_)
  · exact kt h
  · exact kf h
theorem gX6_gather_35 {d : Nat} {Q : Value → zm_S → Prop} {w : zm_S} {a1 : Int32} (hi44 : vp_in (w.1 23 7) 128) (k : zm_T zc_H d mX6_gather Q 55 [(0, .ref 23), (1, .int a1)] [] (zm_pi (zm_pi w 26 ((w.1 23 7)).toNatClampNeg a1) 23 7 ((w.1 23 7) + (1 : Int32)))) : zm_T zc_H d mX6_gather Q 35 [(0, .ref 23), (1, .int a1)] [] w := by
  refine zm_aload_n (x := 23) 0 dX6_gather_35 rfl rfl ?_
  refine zm_getf (v := .ref 26) (j := 2) dX6_gather_36 clX6 flX6_19 (Nat.le_of_ble_eq_true rfl) zc_H23 rfl rfl ?_
  refine zm_aload_n (x := 23) 0 dX6_gather_39 rfl rfl ?_
  refine zm_getf (v := .int (w.1 23 7)) (j := 7) dX6_gather_40 clX6 flX6_32 (Nat.le_of_ble_eq_true rfl) zc_H23 rfl rfl ?_
  refine zm_iload_n (x := a1) 1 dX6_gather_43 rfl rfl ?_
  refine zm_iast dX6_gather_44 zc_H26 hi44 ?_
  refine zm_aload_n (x := 23) 0 dX6_gather_45 rfl rfl ?_
  refine zm_dup dX6_gather_46 rfl ?_
  refine zm_getf (v := .int (w.1 23 7)) (j := 7) dX6_gather_47 clX6 flX6_32 (Nat.le_of_ble_eq_true rfl) zc_H23 rfl rfl ?_
  refine zm_iconst dX6_gather_50 (v := (1 : Int32)) (by decide) ?_
  refine zm_iadd dX6_gather_51 ?_
  refine zm_putf (j := 7) (ty := .int) dX6_gather_52 clX6 flX6_32 (Nat.le_of_ble_eq_true rfl) zc_H23 rfl rfl (by decide +kernel) rfl rfl ?_
  exact k
theorem gX6_gather_55 {d : Nat} {Q : Value → zm_S → Prop} {w : zm_S} {a1 : Int32} (k : zm_T zc_H d mX6_gather Q 7 [(0, .ref 23), (1, .int (a1 + (1 : Int32)))] [] w) : zm_T zc_H d mX6_gather Q 55 [(0, .ref 23), (1, .int a1)] [] w := by
  refine zm_iinc 1 dX6_gather_55 (x := a1) (v := (a1 + (1 : Int32))) rfl rfl (Nat.le_of_ble_eq_true rfl) (ls' := [(1, .int (a1 + (1 : Int32))), (0, .ref 23)]) rfl ?_
  refine zm_goto 7 dX6_gather_58 (by decide) ?_
  refine zm_sub [1, 0] rfl ?_
  exact k
theorem gX6_gather_61 {d : Nat} {Q : Value → zm_S → Prop} {w : zm_S} (k : Q .null (zm_pi w 23 4 (1 : Int32))) : zm_T zc_H d mX6_gather Q 61 [(0, .ref 23)] [] w := by
  refine zm_aload_n (x := 23) 0 dX6_gather_61 rfl rfl ?_
  refine zm_iconst dX6_gather_62 (v := (1 : Int32)) (by decide) ?_
  refine zm_putf (j := 4) (ty := .boolean) dX6_gather_63 clX6 flX6_39 (Nat.le_of_ble_eq_true rfl) zc_H23 rfl rfl (by decide +kernel) rfl (by decide) ?_
  exact zm_return dX6_gather_66 rfl k
theorem gX6_holdsNeeds_0 {d : Nat} {Q : Value → zm_S → Prop} {w : zm_S} {a1 : Int32} (k : zm_T zc_H d mX6_holdsNeeds Q 2 [(0, .ref 23), (1, .int a1), (2, .int (0 : Int32))] [] w) : zm_T zc_H d mX6_holdsNeeds Q 0 [(0, .ref 23), (1, .int a1)] [] w := by
  refine zm_iconst dX6_holdsNeeds_0 (v := (0 : Int32)) (by decide) ?_
  refine zm_istore_n dX6_holdsNeeds_1 rfl (Nat.le_of_ble_eq_true rfl) (ls' := [(2, .int (0 : Int32)), (0, .ref 23), (1, .int a1)]) rfl ?_
  refine zm_sub [1, 2, 0] rfl ?_
  exact k
theorem gX6_holdsNeeds_2 {d : Nat} {Q : Value → zm_S → Prop} {w : zm_S} {a1 : Int32} {a2 : Int32} (kt : (w.1 23 5) ≤ a2 → zm_T zc_H d mX6_holdsNeeds Q 39 [] [] w) (kf : ¬ (w.1 23 5) ≤ a2 → zm_T zc_H d mX6_holdsNeeds Q 10 [(0, .ref 23), (1, .int a1), (2, .int a2)] [] w) : zm_T zc_H d mX6_holdsNeeds Q 2 [(0, .ref 23), (1, .int a1), (2, .int a2)] [] w := by
  refine zm_iload_n (x := a2) 2 dX6_holdsNeeds_2 rfl rfl ?_
  refine zm_aload_n (x := 23) 0 dX6_holdsNeeds_3 rfl rfl ?_
  refine zm_getf (v := .int (w.1 23 5)) (j := 5) dX6_holdsNeeds_4 clX6 flX6_25 (Nat.le_of_ble_eq_true rfl) zc_H23 rfl rfl ?_
  refine zm_icmp_ge 39 dX6_holdsNeeds_7 (by decide) (fun h => ?_) (fun h => ?_)
  · refine zm_sub [] rfl ?_
    exact kt h
  · exact kf h
theorem gX6_holdsNeeds_10 {d : Nat} {Q : Value → zm_S → Prop} {w : zm_S} {a1 : Int32} {a2 : Int32} (kt : (a1 &&& ((1 : Int32) <<< (a2 &&& 31))) = 0 → zm_T zc_H d mX6_holdsNeeds Q 33 [(0, .ref 23), (1, .int a1), (2, .int a2)] [] w) (kf : ¬ (a1 &&& ((1 : Int32) <<< (a2 &&& 31))) = 0 → zm_T zc_H d mX6_holdsNeeds Q 18 [(0, .ref 23), (1, .int a1), (2, .int a2)] [] w) : zm_T zc_H d mX6_holdsNeeds Q 10 [(0, .ref 23), (1, .int a1), (2, .int a2)] [] w := by
  refine zm_iload_n (x := a1) 1 dX6_holdsNeeds_10 rfl rfl ?_
  refine zm_iconst dX6_holdsNeeds_11 (v := (1 : Int32)) (by decide) ?_
  refine zm_iload_n (x := a2) 2 dX6_holdsNeeds_12 rfl rfl ?_
  refine zm_ishl dX6_holdsNeeds_13 ?_
  refine zm_iand dX6_holdsNeeds_14 ?_
  refine zm_if_eq 33 dX6_holdsNeeds_15 (by decide) (fun h => ?_) (fun h => ?_)
  · exact kt h
  · exact kf h
theorem gX6_holdsNeeds_18 {d : Nat} {Q : Value → zm_S → Prop} {w : zm_S} {a1 : Int32} {a2 : Int32} (hi23 : vp_in a2 7) (kt : ((w.1 24 (a2).toNatClampNeg) &&& (a1 ^^^ (-1 : Int32))) = 0 → zm_T zc_H d mX6_holdsNeeds Q 33 [(0, .ref 23), (1, .int a1), (2, .int a2)] [] w) (kf : ¬ ((w.1 24 (a2).toNatClampNeg) &&& (a1 ^^^ (-1 : Int32))) = 0 → zm_T zc_H d mX6_holdsNeeds Q 31 [] [] w) : zm_T zc_H d mX6_holdsNeeds Q 18 [(0, .ref 23), (1, .int a1), (2, .int a2)] [] w := by
  refine zm_aload_n (x := 23) 0 dX6_holdsNeeds_18 rfl rfl ?_
  refine zm_getf (v := .ref 24) (j := 0) dX6_holdsNeeds_19 clX6 flX6_9 (Nat.le_of_ble_eq_true rfl) zc_H23 rfl rfl ?_
  refine zm_iload_n (x := a2) 2 dX6_holdsNeeds_22 rfl rfl ?_
  refine zm_iald dX6_holdsNeeds_23 zc_H24 hi23 ?_
  refine zm_iload_n (x := a1) 1 dX6_holdsNeeds_24 rfl rfl ?_
  refine zm_iconst dX6_holdsNeeds_25 (v := (-1 : Int32)) (by decide) ?_
  refine zm_ixor dX6_holdsNeeds_26 ?_
  refine zm_iand dX6_holdsNeeds_27 ?_
  refine zm_if_eq 33 dX6_holdsNeeds_28 (by decide) (fun h => ?_) (fun h => ?_)
  · exact kt h
  · refine zm_sub [] rfl ?_
    exact kf h
theorem gX6_holdsNeeds_31 {d : Nat} {Q : Value → zm_S → Prop} {w : zm_S} (k : Q (.int (0 : Int32)) w) : zm_T zc_H d mX6_holdsNeeds Q 31 [] [] w := by
  refine zm_iconst dX6_holdsNeeds_31 (v := (0 : Int32)) (by decide) ?_
  exact zm_zreturn dX6_holdsNeeds_32 rfl (by decide) k
theorem gX6_holdsNeeds_33 {d : Nat} {Q : Value → zm_S → Prop} {w : zm_S} {a1 : Int32} {a2 : Int32} (k : zm_T zc_H d mX6_holdsNeeds Q 2 [(0, .ref 23), (1, .int a1), (2, .int (a2 + (1 : Int32)))] [] w) : zm_T zc_H d mX6_holdsNeeds Q 33 [(0, .ref 23), (1, .int a1), (2, .int a2)] [] w := by
  refine zm_iinc 2 dX6_holdsNeeds_33 (x := a2) (v := (a2 + (1 : Int32))) rfl rfl (Nat.le_of_ble_eq_true rfl) (ls' := [(2, .int (a2 + (1 : Int32))), (0, .ref 23), (1, .int a1)]) rfl ?_
  refine zm_goto 2 dX6_holdsNeeds_36 (by decide) ?_
  refine zm_sub [1, 2, 0] rfl ?_
  exact k
theorem gX6_holdsNeeds_39 {d : Nat} {Q : Value → zm_S → Prop} {w : zm_S} (k : Q (.int (1 : Int32)) w) : zm_T zc_H d mX6_holdsNeeds Q 39 [] [] w := by
  refine zm_iconst dX6_holdsNeeds_39 (v := (1 : Int32)) (by decide) ?_
  exact zm_zreturn dX6_holdsNeeds_40 rfl (by decide) k
theorem gX6_neighbours_0 {d : Nat} {Q : Value → zm_S → Prop} {w : zm_S} {a1 : Int32} (k : zm_T zc_H d mX6_neighbours Q 4 [(0, .ref 23), (1, .int a1), (2, .int (0 : Int32)), (3, .int (0 : Int32))] [] w) : zm_T zc_H d mX6_neighbours Q 0 [(0, .ref 23), (1, .int a1)] [] w := by
  refine zm_iconst dX6_neighbours_0 (v := (0 : Int32)) (by decide) ?_
  refine zm_istore_n dX6_neighbours_1 rfl (Nat.le_of_ble_eq_true rfl) (ls' := [(2, .int (0 : Int32)), (0, .ref 23), (1, .int a1)]) rfl ?_
  refine zm_iconst dX6_neighbours_2 (v := (0 : Int32)) (by decide) ?_
  refine zm_istore_n dX6_neighbours_3 rfl (Nat.le_of_ble_eq_true rfl) (ls' := [(3, .int (0 : Int32)), (2, .int (0 : Int32)), (0, .ref 23), (1, .int a1)]) rfl ?_
  refine zm_sub [2, 3, 1, 0] rfl ?_
  exact k
theorem gX6_neighbours_4 {d : Nat} {Q : Value → zm_S → Prop} {w : zm_S} {a1 : Int32} {a2 : Int32} {a3 : Int32} (kt : (w.1 23 5) ≤ a3 → zm_T zc_H d mX6_neighbours Q 41 [(2, .int a2)] [] w) (kf : ¬ (w.1 23 5) ≤ a3 → zm_T zc_H d mX6_neighbours Q 12 [(0, .ref 23), (1, .int a1), (2, .int a2), (3, .int a3)] [] w) : zm_T zc_H d mX6_neighbours Q 4 [(0, .ref 23), (1, .int a1), (2, .int a2), (3, .int a3)] [] w := by
  refine zm_iload_n (x := a3) 3 dX6_neighbours_4 rfl rfl ?_
  refine zm_aload_n (x := 23) 0 dX6_neighbours_5 rfl rfl ?_
  refine zm_getf (v := .int (w.1 23 5)) (j := 5) dX6_neighbours_6 clX6 flX6_25 (Nat.le_of_ble_eq_true rfl) zc_H23 rfl rfl ?_
  refine zm_icmp_ge 41 dX6_neighbours_9 (by decide) (fun h => ?_) (fun h => ?_)
  · refine zm_sub [2] rfl ?_
    exact kt h
  · exact kf h
theorem gX6_neighbours_12 {d : Nat} {Q : Value → zm_S → Prop} {w : zm_S} {a1 : Int32} {a2 : Int32} {a3 : Int32} (hi22 : vp_in (a1 ^^^ ((1 : Int32) <<< (a3 &&& 31))) 128) (kt : (w.1 25 ((a1 ^^^ ((1 : Int32) <<< (a3 &&& 31)))).toNatClampNeg) = 0 → zm_T zc_H d mX6_neighbours Q 32 [(0, .ref 23), (1, .int a1), (3, .int a3)] [.int a2] w) (kf : ¬ (w.1 25 ((a1 ^^^ ((1 : Int32) <<< (a3 &&& 31)))).toNatClampNeg) = 0 → zm_T zc_H d mX6_neighbours Q 26 [(0, .ref 23), (1, .int a1), (3, .int a3)] [.int a2] w) : zm_T zc_H d mX6_neighbours Q 12 [(0, .ref 23), (1, .int a1), (2, .int a2), (3, .int a3)] [] w := by
  refine zm_iload_n (x := a2) 2 dX6_neighbours_12 rfl rfl ?_
  refine zm_aload_n (x := 23) 0 dX6_neighbours_13 rfl rfl ?_
  refine zm_getf (v := .ref 25) (j := 1) dX6_neighbours_14 clX6 flX6_15 (Nat.le_of_ble_eq_true rfl) zc_H23 rfl rfl ?_
  refine zm_iload_n (x := a1) 1 dX6_neighbours_17 rfl rfl ?_
  refine zm_iconst dX6_neighbours_18 (v := (1 : Int32)) (by decide) ?_
  refine zm_iload_n (x := a3) 3 dX6_neighbours_19 rfl rfl ?_
  refine zm_ishl dX6_neighbours_20 ?_
  refine zm_ixor dX6_neighbours_21 ?_
  refine zm_zald dX6_neighbours_22 zc_H25 hi22 ?_
  refine zm_if_eq 32 dX6_neighbours_23 (by decide) (fun h => ?_) (fun h => ?_)
  · refine zm_sub [0, 1, 3] rfl ?_
    exact kt h
  · refine zm_sub [0, 1, 3] rfl ?_
    exact kf h
theorem gX6_neighbours_26 {d : Nat} {Q : Value → zm_S → Prop} {w : zm_S} {a1 : Int32} {a3 : Int32} {s0 : Int32} (k : zm_T zc_H d mX6_neighbours Q 33 [(0, .ref 23), (1, .int a1), (3, .int a3)] [.int ((1 : Int32) <<< (a3 &&& 31)), .int s0] w) : zm_T zc_H d mX6_neighbours Q 26 [(0, .ref 23), (1, .int a1), (3, .int a3)] [.int s0] w := by
  refine zm_iconst dX6_neighbours_26 (v := (1 : Int32)) (by decide) ?_
  refine zm_iload_n (x := a3) 2 dX6_neighbours_27 rfl rfl ?_
  refine zm_ishl dX6_neighbours_28 ?_
  refine zm_goto 33 dX6_neighbours_29 (by decide) ?_
  exact k
theorem gX6_neighbours_32 {d : Nat} {Q : Value → zm_S → Prop} {w : zm_S} {a1 : Int32} {a3 : Int32} {s0 : Int32} (k : zm_T zc_H d mX6_neighbours Q 33 [(0, .ref 23), (1, .int a1), (3, .int a3)] [.int (0 : Int32), .int s0] w) : zm_T zc_H d mX6_neighbours Q 32 [(0, .ref 23), (1, .int a1), (3, .int a3)] [.int s0] w := by
  refine zm_iconst dX6_neighbours_32 (v := (0 : Int32)) (by decide) ?_
  exact k
theorem gX6_neighbours_33 {d : Nat} {Q : Value → zm_S → Prop} {w : zm_S} {a1 : Int32} {a3 : Int32} {s0 : Int32} {s1 : Int32} (k : zm_T zc_H d mX6_neighbours Q 4 [(0, .ref 23), (1, .int a1), (2, .int (s1 ||| s0)), (3, .int (a3 + (1 : Int32)))] [] w) : zm_T zc_H d mX6_neighbours Q 33 [(0, .ref 23), (1, .int a1), (3, .int a3)] [.int s0, .int s1] w := by
  refine zm_ior dX6_neighbours_33 ?_
  refine zm_istore_n dX6_neighbours_34 rfl (Nat.le_of_ble_eq_true rfl) (ls' := [(2, .int (s1 ||| s0)), (0, .ref 23), (1, .int a1), (3, .int a3)]) rfl ?_
  refine zm_iinc 3 dX6_neighbours_35 (x := a3) (v := (a3 + (1 : Int32))) rfl rfl (Nat.le_of_ble_eq_true rfl) (ls' := [(3, .int (a3 + (1 : Int32))), (2, .int (s1 ||| s0)), (0, .ref 23), (1, .int a1)]) rfl ?_
  refine zm_goto 4 dX6_neighbours_38 (by decide) ?_
  refine zm_sub [2, 3, 1, 0] rfl ?_
  exact k
theorem gX6_neighbours_41 {d : Nat} {Q : Value → zm_S → Prop} {w : zm_S} {a2 : Int32} (k : Q (.int a2) w) : zm_T zc_H d mX6_neighbours Q 41 [(2, .int a2)] [] w := by
  refine zm_iload_n (x := a2) 0 dX6_neighbours_41 rfl rfl ?_
  exact zm_ireturn dX6_neighbours_42 rfl k
theorem gX6_waysToAll_0 {d : Nat} {Q : Value → zm_S → Prop} {w : zm_S} (hi6 : vp_in (0 : Int32) 128) (k : zm_T zc_H d mX6_waysToAll Q 9 [(0, .ref 23), (1, .int (1 : Int32))] [] (zm_pi w 27 ((0 : Int32)).toNatClampNeg (1 : Int32))) : zm_T zc_H d mX6_waysToAll Q 0 [(0, .ref 23)] [] w := by
  refine zm_aload_n (x := 23) 0 dX6_waysToAll_0 rfl rfl ?_
  refine zm_getf (v := .ref 27) (j := 3) dX6_waysToAll_1 clX6 flX6_22 (Nat.le_of_ble_eq_true rfl) zc_H23 rfl rfl ?_
  refine zm_iconst dX6_waysToAll_4 (v := (0 : Int32)) (by decide) ?_
  refine zm_iconst dX6_waysToAll_5 (v := (1 : Int32)) (by decide) ?_
  refine zm_iast dX6_waysToAll_6 zc_H27 hi6 ?_
  refine zm_iconst dX6_waysToAll_7 (v := (1 : Int32)) (by decide) ?_
  refine zm_istore_n dX6_waysToAll_8 rfl (Nat.le_of_ble_eq_true rfl) (ls' := [(1, .int (1 : Int32)), (0, .ref 23)]) rfl ?_
  refine zm_sub [1, 0] rfl ?_
  exact k
theorem gX6_waysToAll_9 {d : Nat} {Q : Value → zm_S → Prop} {w : zm_S} {a1 : Int32} (kt : (w.1 23 7) ≤ a1 → zm_T zc_H d mX6_waysToAll Q 92 [(0, .ref 23)] [] w) (kf : ¬ (w.1 23 7) ≤ a1 → zm_T zc_H d mX6_waysToAll Q 17 [(0, .ref 23), (1, .int a1)] [] w) : zm_T zc_H d mX6_waysToAll Q 9 [(0, .ref 23), (1, .int a1)] [] w := by
  refine zm_iload_n (x := a1) 1 dX6_waysToAll_9 rfl rfl ?_
  refine zm_aload_n (x := 23) 0 dX6_waysToAll_10 rfl rfl ?_
  refine zm_getf (v := .int (w.1 23 7)) (j := 7) dX6_waysToAll_11 clX6 flX6_32 (Nat.le_of_ble_eq_true rfl) zc_H23 rfl rfl ?_
  refine zm_icmp_ge 92 dX6_waysToAll_14 (by decide) (fun h => ?_) (fun h => ?_)
  · refine zm_sub [0] rfl ?_
    exact kt h
  · exact kf h
theorem gX6_waysToAll_17 {d : Nat} {Q : Value → zm_S → Prop} {w : zm_S} {a1 : Int32} {Q' : Value → zm_S → Prop} (hi22 : vp_in a1 128) (hC : zm_C zc_H d mX6_neighbours [.ref 23, .int (w.1 26 (a1).toNatClampNeg)] w Q') (k : ∀ (r : Int32) (u : zm_S), Q' (.int r) u → zm_T zc_H (d + 1) mX6_waysToAll Q 29 [(0, .ref 23), (1, .int a1), (2, .int (w.1 26 (a1).toNatClampNeg))] [.int r] u) : zm_T zc_H (d + 1) mX6_waysToAll Q 17 [(0, .ref 23), (1, .int a1)] [] w := by
  refine zm_aload_n (x := 23) 0 dX6_waysToAll_17 rfl rfl ?_
  refine zm_getf (v := .ref 26) (j := 2) dX6_waysToAll_18 clX6 flX6_19 (Nat.le_of_ble_eq_true rfl) zc_H23 rfl rfl ?_
  refine zm_iload_n (x := a1) 1 dX6_waysToAll_21 rfl rfl ?_
  refine zm_iald dX6_waysToAll_22 zc_H26 hi22 ?_
  refine zm_istore_n dX6_waysToAll_23 rfl (Nat.le_of_ble_eq_true rfl) (ls' := [(2, .int (w.1 26 (a1).toNatClampNeg)), (0, .ref 23), (1, .int a1)]) rfl ?_
  refine zm_aload_n (x := 23) 1 dX6_waysToAll_24 rfl rfl ?_
  refine zm_iload_n (x := (w.1 26 (a1).toNatClampNeg)) 0 dX6_waysToAll_25 rfl rfl ?_
  refine zm_callVi (as := [.int (w.1 26 (a1).toNatClampNeg)]) (rest := []) dX6_waysToAll_26 rfl mtX6_neighbours lkX6_43 zc_H23 (C := RX6) rfl rfl rfl (Nat.le_of_ble_eq_true rfl) hC rfl (fun r u hq => ?_)
  refine zm_sub [1, 2, 0] rfl ?_
  exact k r u hq
theorem gX6_waysToAll_29 {d : Nat} {Q : Value → zm_S → Prop} {w : zm_S} {a1 : Int32} {a2 : Int32} {s0 : Int32} (hi38 : vp_in a2 128) (k : zm_T zc_H d mX6_waysToAll Q 42 [(0, .ref 23), (1, .int a1), (2, .int a2), (3, .int (s0 &&& a2)), (4, .int (0 : Int32))] [] (zm_pi w 27 (a2).toNatClampNeg (0 : Int32))) : zm_T zc_H d mX6_waysToAll Q 29 [(0, .ref 23), (1, .int a1), (2, .int a2)] [.int s0] w := by
  refine zm_iload_n (x := a2) 2 dX6_waysToAll_29 rfl rfl ?_
  refine zm_iand dX6_waysToAll_30 ?_
  refine zm_istore_n dX6_waysToAll_31 rfl (Nat.le_of_ble_eq_true rfl) (ls' := [(3, .int (s0 &&& a2)), (0, .ref 23), (1, .int a1), (2, .int a2)]) rfl ?_
  refine zm_aload_n (x := 23) 1 dX6_waysToAll_32 rfl rfl ?_
  refine zm_getf (v := .ref 27) (j := 3) dX6_waysToAll_33 clX6 flX6_22 (Nat.le_of_ble_eq_true rfl) zc_H23 rfl rfl ?_
  refine zm_iload_n (x := a2) 3 dX6_waysToAll_36 rfl rfl ?_
  refine zm_iconst dX6_waysToAll_37 (v := (0 : Int32)) (by decide) ?_
  refine zm_iast dX6_waysToAll_38 zc_H27 hi38 ?_
  refine zm_iconst dX6_waysToAll_39 (v := (0 : Int32)) (by decide) ?_
  refine zm_istore dX6_waysToAll_40 (Nat.le_of_ble_eq_true rfl) (ls' := [(4, .int (0 : Int32)), (3, .int (s0 &&& a2)), (0, .ref 23), (1, .int a1), (2, .int a2)]) rfl ?_
  refine zm_sub [2, 3, 4, 1, 0] rfl ?_
  exact k
theorem gX6_waysToAll_42 {d : Nat} {Q : Value → zm_S → Prop} {w : zm_S} {a1 : Int32} {a2 : Int32} {a3 : Int32} {a4 : Int32} (kt : (w.1 23 5) ≤ a4 → zm_T zc_H d mX6_waysToAll Q 86 [(0, .ref 23), (1, .int a1)] [] w) (kf : ¬ (w.1 23 5) ≤ a4 → zm_T zc_H d mX6_waysToAll Q 51 [(0, .ref 23), (1, .int a1), (2, .int a2), (3, .int a3), (4, .int a4)] [] w) : zm_T zc_H d mX6_waysToAll Q 42 [(0, .ref 23), (1, .int a1), (2, .int a2), (3, .int a3), (4, .int a4)] [] w := by
  refine zm_iload (x := a4) 4 dX6_waysToAll_42 rfl ?_
  refine zm_aload_n (x := 23) 0 dX6_waysToAll_44 rfl rfl ?_
  refine zm_getf (v := .int (w.1 23 5)) (j := 5) dX6_waysToAll_45 clX6 flX6_25 (Nat.le_of_ble_eq_true rfl) zc_H23 rfl rfl ?_
  refine zm_icmp_ge 86 dX6_waysToAll_48 (by decide) (fun h => ?_) (fun h => ?_)
  · refine zm_sub [0, 1] rfl ?_
    exact kt h
  · exact kf h
theorem gX6_waysToAll_51 {d : Nat} {Q : Value → zm_S → Prop} {w : zm_S} {a1 : Int32} {a2 : Int32} {a3 : Int32} {a4 : Int32} (kt : (a3 &&& ((1 : Int32) <<< (a4 &&& 31))) = 0 → zm_T zc_H d mX6_waysToAll Q 80 [(0, .ref 23), (1, .int a1), (2, .int a2), (3, .int a3), (4, .int a4)] [] w) (kf : ¬ (a3 &&& ((1 : Int32) <<< (a4 &&& 31))) = 0 → zm_T zc_H d mX6_waysToAll Q 60 [(0, .ref 23), (1, .int a1), (2, .int a2), (3, .int a3), (4, .int a4)] [] w) : zm_T zc_H d mX6_waysToAll Q 51 [(0, .ref 23), (1, .int a1), (2, .int a2), (3, .int a3), (4, .int a4)] [] w := by
  refine zm_iload_n (x := a3) 3 dX6_waysToAll_51 rfl rfl ?_
  refine zm_iconst dX6_waysToAll_52 (v := (1 : Int32)) (by decide) ?_
  refine zm_iload (x := a4) 4 dX6_waysToAll_53 rfl ?_
  refine zm_ishl dX6_waysToAll_55 ?_
  refine zm_iand dX6_waysToAll_56 ?_
  refine zm_if_eq 80 dX6_waysToAll_57 (by decide) (fun h => ?_) (fun h => ?_)
  · exact kt h
  · exact kf h
theorem gX6_waysToAll_60 {d : Nat} {Q : Value → zm_S → Prop} {w : zm_S} {a1 : Int32} {a2 : Int32} {a3 : Int32} {a4 : Int32} (hi66 : vp_in a2 128) (hi77 : vp_in (a2 ^^^ ((1 : Int32) <<< (a4 &&& 31))) 128) (hi79 : vp_in a2 128) (k : zm_T zc_H d mX6_waysToAll Q 80 [(0, .ref 23), (1, .int a1), (2, .int a2), (3, .int a3), (4, .int a4)] [] (zm_pi w 27 (a2).toNatClampNeg ((w.1 27 (a2).toNatClampNeg) + (w.1 27 ((a2 ^^^ ((1 : Int32) <<< (a4 &&& 31)))).toNatClampNeg)))) : zm_T zc_H d mX6_waysToAll Q 60 [(0, .ref 23), (1, .int a1), (2, .int a2), (3, .int a3), (4, .int a4)] [] w := by
  refine zm_aload_n (x := 23) 0 dX6_waysToAll_60 rfl rfl ?_
  refine zm_getf (v := .ref 27) (j := 3) dX6_waysToAll_61 clX6 flX6_22 (Nat.le_of_ble_eq_true rfl) zc_H23 rfl rfl ?_
  refine zm_iload_n (x := a2) 2 dX6_waysToAll_64 rfl rfl ?_
  refine zm_dup2 dX6_waysToAll_65 rfl rfl ?_
  refine zm_iald dX6_waysToAll_66 zc_H27 hi66 ?_
  refine zm_aload_n (x := 23) 0 dX6_waysToAll_67 rfl rfl ?_
  refine zm_getf (v := .ref 27) (j := 3) dX6_waysToAll_68 clX6 flX6_22 (Nat.le_of_ble_eq_true rfl) zc_H23 rfl rfl ?_
  refine zm_iload_n (x := a2) 2 dX6_waysToAll_71 rfl rfl ?_
  refine zm_iconst dX6_waysToAll_72 (v := (1 : Int32)) (by decide) ?_
  refine zm_iload (x := a4) 4 dX6_waysToAll_73 rfl ?_
  refine zm_ishl dX6_waysToAll_75 ?_
  refine zm_ixor dX6_waysToAll_76 ?_
  refine zm_iald dX6_waysToAll_77 zc_H27 hi77 ?_
  refine zm_iadd dX6_waysToAll_78 ?_
  refine zm_iast dX6_waysToAll_79 zc_H27 hi79 ?_
  exact k
theorem gX6_waysToAll_80 {d : Nat} {Q : Value → zm_S → Prop} {w : zm_S} {a1 : Int32} {a2 : Int32} {a3 : Int32} {a4 : Int32} (k : zm_T zc_H d mX6_waysToAll Q 42 [(0, .ref 23), (1, .int a1), (2, .int a2), (3, .int a3), (4, .int (a4 + (1 : Int32)))] [] w) : zm_T zc_H d mX6_waysToAll Q 80 [(0, .ref 23), (1, .int a1), (2, .int a2), (3, .int a3), (4, .int a4)] [] w := by
  refine zm_iinc 4 dX6_waysToAll_80 (x := a4) (v := (a4 + (1 : Int32))) rfl rfl (Nat.le_of_ble_eq_true rfl) (ls' := [(4, .int (a4 + (1 : Int32))), (0, .ref 23), (1, .int a1), (2, .int a2), (3, .int a3)]) rfl ?_
  refine zm_goto 42 dX6_waysToAll_83 (by decide) ?_
  refine zm_sub [1, 2, 3, 4, 0] rfl ?_
  exact k
theorem gX6_waysToAll_86 {d : Nat} {Q : Value → zm_S → Prop} {w : zm_S} {a1 : Int32} (k : zm_T zc_H d mX6_waysToAll Q 9 [(0, .ref 23), (1, .int (a1 + (1 : Int32)))] [] w) : zm_T zc_H d mX6_waysToAll Q 86 [(0, .ref 23), (1, .int a1)] [] w := by
  refine zm_iinc 1 dX6_waysToAll_86 (x := a1) (v := (a1 + (1 : Int32))) rfl rfl (Nat.le_of_ble_eq_true rfl) (ls' := [(1, .int (a1 + (1 : Int32))), (0, .ref 23)]) rfl ?_
  refine zm_goto 9 dX6_waysToAll_89 (by decide) ?_
  refine zm_sub [1, 0] rfl ?_
  exact k
theorem gX6_waysToAll_92 {d : Nat} {Q : Value → zm_S → Prop} {w : zm_S} (hi100 : vp_in (w.1 23 6) 128) (k : Q (.int (w.1 27 ((w.1 23 6)).toNatClampNeg)) w) : zm_T zc_H d mX6_waysToAll Q 92 [(0, .ref 23)] [] w := by
  refine zm_aload_n (x := 23) 0 dX6_waysToAll_92 rfl rfl ?_
  refine zm_getf (v := .ref 27) (j := 3) dX6_waysToAll_93 clX6 flX6_22 (Nat.le_of_ble_eq_true rfl) zc_H23 rfl rfl ?_
  refine zm_aload_n (x := 23) 0 dX6_waysToAll_96 rfl rfl ?_
  refine zm_getf (v := .int (w.1 23 6)) (j := 6) dX6_waysToAll_97 clX6 flX6_29 (Nat.le_of_ble_eq_true rfl) zc_H23 rfl rfl ?_
  refine zm_iald dX6_waysToAll_100 zc_H27 hi100 ?_
  exact zm_ireturn dX6_waysToAll_101 rfl k
