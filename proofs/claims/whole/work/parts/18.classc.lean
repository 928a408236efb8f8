theorem gX7_write_8 {d : Nat} {Q : Value → zm_S → Prop} {w : zm_S} (k : Q (.int (-2 : Int32)) w) : zm_T zc_H d mX7_write Q 8 [] [] w := by
  refine zm_bipush dX7_write_8 (v := (-2 : Int32)) (by decide) ?_
  exact zm_ireturn dX7_write_10 rfl k
theorem gX7_write_11 {d : Nat} {Q : Value → zm_S → Prop} {w : zm_S} {a1 : Int32} {q16 : Nat} (hi16 : vp_in a1 4) (hq16 : ([40, 42, 44, 46] : List Nat)[(a1).toNatClampNeg]? = some q16) (kt : (w.1 q16 1) = 0 → zm_T zc_H d mX7_write Q 31 [(0, .ref 0), (2, .ref q16)] [] w) (kf : ¬ (w.1 q16 1) = 0 → zm_T zc_H d mX7_write Q 25 [(0, .ref 0)] [] w) : zm_T zc_H d mX7_write Q 11 [(0, .ref 0), (1, .int a1)] [] w := by
  refine zm_aload_n (x := 0) 0 dX7_write_11 rfl rfl ?_
  refine zm_getf (v := .ref 39) (j := 7) dX7_write_12 clX7 flX7_57 (Nat.le_of_ble_eq_true rfl) zc_H0 rfl rfl ?_
  refine zm_iload_n (x := a1) 1 dX7_write_15 rfl rfl ?_
  refine zm_aald dX7_write_16 zc_H39 hi16 hq16 ?_
  refine zm_astore_n dX7_write_17 rfl (Nat.le_of_ble_eq_true rfl) (ls' := [(2, .ref q16), (0, .ref 0), (1, .int a1)]) rfl ?_
  refine zm_aload_n (x := q16) 0 dX7_write_18 rfl rfl ?_
  refine zm_getf (v := .int (w.1 q16 1)) (j := 1) dX7_write_19 clX5 flX7_97 (Nat.le_of_ble_eq_true rfl) (zc_sh_of hq16).1 rfl rfl ?_
  refine zm_if_eq 31 dX7_write_22 (by decide) (fun h => ?_) (fun h => ?_)
  · refine zm_sub [1, 0] rfl ?_
    exact kt h
  · refine zm_sub [1] rfl ?_
    exact kf h
theorem gX7_write_25 {d : Nat} {Q : Value → zm_S → Prop} {w : zm_S} {Q' : Value → zm_S → Prop} (hC : zm_C zc_H d mX7_tellFinding [.ref 0, .int (1 : Int32)] w Q') (k : ∀ (r : Int32) (u : zm_S), Q' (.int r) u → zm_T zc_H (d + 1) mX7_write Q 30 [] [.int r] u) : zm_T zc_H (d + 1) mX7_write Q 25 [(0, .ref 0)] [] w := by
  refine zm_aload_n (x := 0) 0 dX7_write_25 rfl rfl ?_
  refine zm_iconst dX7_write_26 (v := (1 : Int32)) (by decide) ?_
  refine zm_callVi (as := [.int (1 : Int32)]) (rest := []) dX7_write_27 rfl mtX7_tellFinding lkX7_100 zc_H0 (C := RX7) rfl rfl rfl (Nat.le_of_ble_eq_true rfl) hC rfl (fun r u hq => ?_)
  refine zm_sub [] rfl ?_
  exact k r u hq
theorem gX7_write_30 {d : Nat} {Q : Value → zm_S → Prop} {w : zm_S} {s0 : Int32} (k : Q (.int s0) w) : zm_T zc_H d mX7_write Q 30 [] [.int s0] w := by
  exact zm_ireturn dX7_write_30 rfl k
theorem gX7_write_31 {d : Nat} {Q : Value → zm_S → Prop} {w : zm_S} {oa2 : Nat} {Q' : Value → zm_S → Prop} (hoa2 : zc_sh oa2) (hC : zm_C zc_H d mX7_findStates [.ref 0] w Q') (k : ∀ (u : zm_S), Q' .null u → zm_T zc_H (d + 1) mX7_write Q 35 [(0, .ref 0), (2, .ref oa2)] [] u) : zm_T zc_H (d + 1) mX7_write Q 31 [(0, .ref 0), (2, .ref oa2)] [] w := by
  refine zm_aload_n (x := 0) 0 dX7_write_31 rfl rfl ?_
  refine zm_callVv (as := []) (rest := []) dX7_write_32 rfl mtX7_findStates lkX7_186 zc_H0 (C := RX7) rfl rfl rfl (Nat.le_of_ble_eq_true rfl) hC rfl (fun u hq => ?_)
  exact k u hq
theorem gX7_write_35 {d : Nat} {Q : Value → zm_S → Prop} {w : zm_S} {oa2 : Nat} (hoa2 : zc_sh oa2) (k : zm_T zc_H d mX7_write Q 48 [(0, .ref 0), (2, .ref oa2), (3, .int (if (w.1 oa2 3) < (12 : Int32) then (w.1 oa2 3) else (12 : Int32))), (4, .int (0 : Int32))] [] w) : zm_T zc_H d mX7_write Q 35 [(0, .ref 0), (2, .ref oa2)] [] w := by
  refine zm_bipush dX7_write_35 (v := (12 : Int32)) (by decide) ?_
  refine zm_aload_n (x := oa2) 1 dX7_write_37 rfl rfl ?_
  refine zm_getf (v := .int (w.1 oa2 3)) (j := 3) dX7_write_38 clX5 flX7_104 (Nat.le_of_ble_eq_true rfl) hoa2.1 rfl rfl ?_
  refine zm_mmin dX7_write_41 lkX7_107 zm_mmmin (Nat.le_of_ble_eq_true rfl) ?_
  refine zm_istore_n dX7_write_44 rfl (Nat.le_of_ble_eq_true rfl) (ls' := [(3, .int (if (w.1 oa2 3) < (12 : Int32) then (w.1 oa2 3) else (12 : Int32))), (0, .ref 0), (2, .ref oa2)]) rfl ?_
  refine zm_iconst dX7_write_45 (v := (0 : Int32)) (by decide) ?_
  refine zm_istore dX7_write_46 (Nat.le_of_ble_eq_true rfl) (ls' := [(4, .int (0 : Int32)), (3, .int (if (w.1 oa2 3) < (12 : Int32) then (w.1 oa2 3) else (12 : Int32))), (0, .ref 0), (2, .ref oa2)]) rfl ?_
  refine zm_sub [2, 3, 1, 0] rfl ?_
  exact k
theorem gX7_write_48 {d : Nat} {Q : Value → zm_S → Prop} {w : zm_S} {oa2 : Nat} {a3 : Int32} {a4 : Int32} (hoa2 : zc_sh oa2) (kt : a3 ≤ a4 → zm_T zc_H d mX7_write Q 72 [(3, .int a3)] [] w) (kf : ¬ a3 ≤ a4 → zm_T zc_H d mX7_write Q 54 [(0, .ref 0), (2, .ref oa2), (3, .int a3), (4, .int a4)] [] w) : zm_T zc_H d mX7_write Q 48 [(0, .ref 0), (2, .ref oa2), (3, .int a3), (4, .int a4)] [] w := by
  refine zm_iload (x := a4) 3 dX7_write_48 rfl ?_
  refine zm_iload_n (x := a3) 2 dX7_write_50 rfl rfl ?_
  refine zm_icmp_ge 72 dX7_write_51 (by decide) (fun h => ?_) (fun h => ?_)
  · refine zm_sub [2] rfl ?_
    exact kt h
  · exact kf h
theorem gX7_write_54 {d : Nat} {Q : Value → zm_S → Prop} {w : zm_S} {oa2 : Nat} {a3 : Int32} {a4 : Int32} {Q' : Value → zm_S → Prop} (hoa2 : zc_sh oa2) (hC : zm_C zc_H d mX7_stateOf [.ref 0, .int a4] w Q') (k : ∀ (r : Int32) (u : zm_S), Q' (.int r) u → zm_T zc_H (d + 1) mX7_write Q 63 [(0, .ref 0), (2, .ref oa2), (3, .int a3), (4, .int a4)] [.int r, .int a4, .ref oa2] u) : zm_T zc_H (d + 1) mX7_write Q 54 [(0, .ref 0), (2, .ref oa2), (3, .int a3), (4, .int a4)] [] w := by
  refine zm_aload_n (x := oa2) 1 dX7_write_54 rfl rfl ?_
  refine zm_iload (x := a4) 3 dX7_write_55 rfl ?_
  refine zm_aload_n (x := 0) 0 dX7_write_57 rfl rfl ?_
  refine zm_iload (x := a4) 3 dX7_write_58 rfl ?_
  refine zm_callVi (as := [.int a4]) (rest := [.int a4, .ref oa2]) dX7_write_60 rfl mtX7_stateOf lkX7_193 zc_H0 (C := RX7) rfl rfl rfl (Nat.le_of_ble_eq_true rfl) hC rfl (fun r u hq => ?_)
  exact k r u hq
theorem gX7_write_63 {d : Nat} {Q : Value → zm_S → Prop} {w : zm_S} {oa2 : Nat} {a3 : Int32} {a4 : Int32} {s0 : Int32} {s1 : Int32} {os2 : Nat} {Q' : Value → zm_S → Prop} (hoa2 : zc_sh oa2) (hos2 : zc_sh os2) (hC : zm_C zc_H d mX5_put [.ref os2, .int s1, .int s0] w Q') (k : ∀ (u : zm_S), Q' .null u → zm_T zc_H (d + 1) mX7_write Q 66 [(0, .ref 0), (2, .ref oa2), (3, .int a3), (4, .int a4)] [] u) : zm_T zc_H (d + 1) mX7_write Q 63 [(0, .ref 0), (2, .ref oa2), (3, .int a3), (4, .int a4)] [.int s0, .int s1, .ref os2] w := by
  refine zm_callVv (as := [.int s1, .int s0]) (rest := []) dX7_write_63 rfl mtX5_put lkX7_262 hos2.1 (C := RX5) rfl rfl rfl (Nat.le_of_ble_eq_true rfl) hC rfl (fun u hq => ?_)
  exact k u hq
theorem gX7_write_66 {d : Nat} {Q : Value → zm_S → Prop} {w : zm_S} {oa2 : Nat} {a3 : Int32} {a4 : Int32} (hoa2 : zc_sh oa2) (k : zm_T zc_H d mX7_write Q 48 [(0, .ref 0), (2, .ref oa2), (3, .int a3), (4, .int (a4 + (1 : Int32)))] [] w) : zm_T zc_H d mX7_write Q 66 [(0, .ref 0), (2, .ref oa2), (3, .int a3), (4, .int a4)] [] w := by
  refine zm_iinc 3 dX7_write_66 (x := a4) (v := (a4 + (1 : Int32))) rfl rfl (Nat.le_of_ble_eq_true rfl) (ls' := [(4, .int (a4 + (1 : Int32))), (0, .ref 0), (2, .ref oa2), (3, .int a3)]) rfl ?_
  refine zm_goto 48 dX7_write_69 (by decide) ?_
  refine zm_sub [1, 2, 3, 0] rfl ?_
  exact k
theorem gX7_write_72 {d : Nat} {Q : Value → zm_S → Prop} {w : zm_S} {a3 : Int32} (k : Q (.int a3) w) : zm_T zc_H d mX7_write Q 72 [(3, .int a3)] [] w := by
  refine zm_iload_n (x := a3) 0 dX7_write_72 rfl rfl ?_
  exact zm_ireturn dX7_write_73 rfl k
theorem gX7_count_0 {d : Nat} {Q : Value → zm_S → Prop} {w : zm_S} {a1 : Int32} (k0 : a1 = (0 : Int32) → zm_T zc_H d mX7_count Q 52 [(0, .ref 0)] [] w) (k1 : a1 = (1 : Int32) → zm_T zc_H d mX7_count Q 60 [(0, .ref 0)] [] w) (k2 : a1 = (2 : Int32) → zm_T zc_H d mX7_count Q 68 [(0, .ref 0)] [] w) (k3 : a1 = (3 : Int32) → zm_T zc_H d mX7_count Q 76 [(0, .ref 0)] [] w) (k4 : a1 = (4 : Int32) → zm_T zc_H d mX7_count Q 84 [(0, .ref 0)] [] w) (k5 : a1 = (5 : Int32) → zm_T zc_H d mX7_count Q 92 [(0, .ref 0)] [] w) (k6 : a1 = (6 : Int32) → zm_T zc_H d mX7_count Q 100 [(0, .ref 0)] [] w) (k7 : a1 = (7 : Int32) → zm_T zc_H d mX7_count Q 108 [(0, .ref 0)] [] w) (k8 : a1 = (8 : Int32) → zm_T zc_H d mX7_count Q 115 [(0, .ref 0)] [] w) (kd : (a1.toInt < 0 ∨ 8 < a1.toInt) → zm_T zc_H d mX7_count Q 120 [] [] w) : zm_T zc_H d mX7_count Q 0 [(0, .ref 0), (1, .int a1)] [] w := by
  refine zm_iload_n (x := a1) 1 dX7_count_0 rfl rfl ?_
  by_cases hlo : (a1).toInt < 0
  · refine zm_tableOut 120 dX7_count_1 (Or.inl hlo) (by decide) ?_
    refine zm_sub [] rfl ?_
    exact kd (Or.inl hlo)
  by_cases hhi : 8 < (a1).toInt
  · refine zm_tableOut 120 dX7_count_1 (Or.inr hhi) (by decide) ?_
    refine zm_sub [] rfl ?_
    exact kd (Or.inr hhi)
  have hcs : a1 = (0 : Int32) ∨ a1 = (1 : Int32) ∨ a1 = (2 : Int32) ∨ a1 = (3 : Int32) ∨ a1 = (4 : Int32) ∨ a1 = (5 : Int32) ∨ a1 = (6 : Int32) ∨ a1 = (7 : Int32) ∨ a1 = (8 : Int32) := by
    have hv : (a1).toInt = 0 ∨ (a1).toInt = 1 ∨ (a1).toInt = 2 ∨ (a1).toInt = 3 ∨ (a1).toInt = 4 ∨ (a1).toInt = 5 ∨ (a1).toInt = 6 ∨ (a1).toInt = 7 ∨ (a1).toInt = 8 := by omega
    rcases hv with h | h | h | h | h | h | h | h | h
    · exact Or.inl (Int32.toInt_inj.mp h)
    · exact Or.inr (Or.inl (Int32.toInt_inj.mp h))
    · exact Or.inr (Or.inr (Or.inl (Int32.toInt_inj.mp h)))
    · exact Or.inr (Or.inr (Or.inr (Or.inl (Int32.toInt_inj.mp h))))
    · exact Or.inr (Or.inr (Or.inr (Or.inr (Or.inl (Int32.toInt_inj.mp h)))))
    · exact Or.inr (Or.inr (Or.inr (Or.inr (Or.inr (Or.inl (Int32.toInt_inj.mp h))))))
    · exact Or.inr (Or.inr (Or.inr (Or.inr (Or.inr (Or.inr (Or.inl (Int32.toInt_inj.mp h)))))))
    · exact Or.inr (Or.inr (Or.inr (Or.inr (Or.inr (Or.inr (Or.inr (Or.inl (Int32.toInt_inj.mp h))))))))
    · exact Or.inr (Or.inr (Or.inr (Or.inr (Or.inr (Or.inr (Or.inr (Or.inr ((Int32.toInt_inj.mp h)))))))))
  rcases hcs with h | h | h | h | h | h | h | h | h
  · refine zm_tableIn 52 dX7_count_1 (by rw [h]; decide) (by rw [h]; decide) (by rw [h]; rfl) (by decide) ?_
    refine zm_sub [0] rfl ?_
    exact k0 h
  · refine zm_tableIn 60 dX7_count_1 (by rw [h]; decide) (by rw [h]; decide) (by rw [h]; rfl) (by decide) ?_
    refine zm_sub [0] rfl ?_
    exact k1 h
  · refine zm_tableIn 68 dX7_count_1 (by rw [h]; decide) (by rw [h]; decide) (by rw [h]; rfl) (by decide) ?_
    refine zm_sub [0] rfl ?_
    exact k2 h
  · refine zm_tableIn 76 dX7_count_1 (by rw [h]; decide) (by rw [h]; decide) (by rw [h]; rfl) (by decide) ?_
    refine zm_sub [0] rfl ?_
    exact k3 h
  · refine zm_tableIn 84 dX7_count_1 (by rw [h]; decide) (by rw [h]; decide) (by rw [h]; rfl) (by decide) ?_
    refine zm_sub [0] rfl ?_
    exact k4 h
  · refine zm_tableIn 92 dX7_count_1 (by rw [h]; decide) (by rw [h]; decide) (by rw [h]; rfl) (by decide) ?_
    refine zm_sub [0] rfl ?_
    exact k5 h
  · refine zm_tableIn 100 dX7_count_1 (by rw [h]; decide) (by rw [h]; decide) (by rw [h]; rfl) (by decide) ?_
    refine zm_sub [0] rfl ?_
    exact k6 h
  · refine zm_tableIn 108 dX7_count_1 (by rw [h]; decide) (by rw [h]; decide) (by rw [h]; rfl) (by decide) ?_
    refine zm_sub [0] rfl ?_
    exact k7 h
  · refine zm_tableIn 115 dX7_count_1 (by rw [h]; decide) (by rw [h]; decide) (by rw [h]; rfl) (by decide) ?_
    refine zm_sub [0] rfl ?_
    exact k8 h
theorem gX7_count_52 {d : Nat} {Q : Value → zm_S → Prop} {w : zm_S} (k : Q (.int (w.1 2 9)) w) : zm_T zc_H d mX7_count Q 52 [(0, .ref 0)] [] w := by
  refine zm_aload_n (x := 0) 0 dX7_count_52 rfl rfl ?_
  refine zm_getf (v := .ref 2) (j := 1) dX7_count_53 clX7 flX7_16 (Nat.le_of_ble_eq_true rfl) zc_H0 rfl rfl ?_
  refine zm_getf (v := .int (w.1 2 9)) (j := 9) dX7_count_56 clX0 flX7_183 (Nat.le_of_ble_eq_true rfl) zc_H2 rfl rfl ?_
  exact zm_ireturn dX7_count_59 rfl k
theorem gX7_count_60 {d : Nat} {Q : Value → zm_S → Prop} {w : zm_S} (k : Q (.int (w.1 2 8)) w) : zm_T zc_H d mX7_count Q 60 [(0, .ref 0)] [] w := by
  refine zm_aload_n (x := 0) 0 dX7_count_60 rfl rfl ?_
  refine zm_getf (v := .ref 2) (j := 1) dX7_count_61 clX7 flX7_16 (Nat.le_of_ble_eq_true rfl) zc_H0 rfl rfl ?_
  refine zm_getf (v := .int (w.1 2 8)) (j := 8) dX7_count_64 clX0 flX7_93 (Nat.le_of_ble_eq_true rfl) zc_H2 rfl rfl ?_
  exact zm_ireturn dX7_count_67 rfl k
theorem gX7_count_68 {d : Nat} {Q : Value → zm_S → Prop} {w : zm_S} {Q' : Value → zm_S → Prop} (hC : zm_C zc_H d mX0_givenByAll [.ref 2] w Q') (k : ∀ (r : Int32) (u : zm_S), Q' (.int r) u → zm_T zc_H (d + 1) mX7_count Q 75 [] [.int r] u) : zm_T zc_H (d + 1) mX7_count Q 68 [(0, .ref 0)] [] w := by
  refine zm_aload_n (x := 0) 0 dX7_count_68 rfl rfl ?_
  refine zm_getf (v := .ref 2) (j := 1) dX7_count_69 clX7 flX7_16 (Nat.le_of_ble_eq_true rfl) zc_H0 rfl rfl ?_
  refine zm_callVi (as := []) (rest := []) dX7_count_72 rfl mtX0_givenByAll lkX7_169 zc_H2 (C := RX0) rfl rfl rfl (Nat.le_of_ble_eq_true rfl) hC rfl (fun r u hq => ?_)
  refine zm_sub [] rfl ?_
  exact k r u hq
theorem gX7_count_75 {d : Nat} {Q : Value → zm_S → Prop} {w : zm_S} {s0 : Int32} (k : Q (.int s0) w) : zm_T zc_H d mX7_count Q 75 [] [.int s0] w := by
  exact zm_ireturn dX7_count_75 rfl k
theorem gX7_count_76 {d : Nat} {Q : Value → zm_S → Prop} {w : zm_S} {Q' : Value → zm_S → Prop} (hC : zm_C zc_H d mX0_yesByAll [.ref 2] w Q') (k : ∀ (r : Int32) (u : zm_S), Q' (.int r) u → zm_T zc_H (d + 1) mX7_count Q 83 [] [.int r] u) : zm_T zc_H (d + 1) mX7_count Q 76 [(0, .ref 0)] [] w := by
  refine zm_aload_n (x := 0) 0 dX7_count_76 rfl rfl ?_
  refine zm_getf (v := .ref 2) (j := 1) dX7_count_77 clX7 flX7_16 (Nat.le_of_ble_eq_true rfl) zc_H0 rfl rfl ?_
  refine zm_callVi (as := []) (rest := []) dX7_count_80 rfl mtX0_yesByAll lkX7_281 zc_H2 (C := RX0) rfl rfl rfl (Nat.le_of_ble_eq_true rfl) hC rfl (fun r u hq => ?_)
  refine zm_sub [] rfl ?_
  exact k r u hq
theorem gX7_count_83 {d : Nat} {Q : Value → zm_S → Prop} {w : zm_S} {s0 : Int32} (k : Q (.int s0) w) : zm_T zc_H d mX7_count Q 83 [] [.int s0] w := by
  exact zm_ireturn dX7_count_83 rfl k
theorem gX7_count_84 {d : Nat} {Q : Value → zm_S → Prop} {w : zm_S} {Q' : Value → zm_S → Prop} (hC : zm_C zc_H d mX0_pupilsWithSome [.ref 2] w Q') (k : ∀ (r : Int32) (u : zm_S), Q' (.int r) u → zm_T zc_H (d + 1) mX7_count Q 91 [] [.int r] u) : zm_T zc_H (d + 1) mX7_count Q 84 [(0, .ref 0)] [] w := by
  refine zm_aload_n (x := 0) 0 dX7_count_84 rfl rfl ?_
  refine zm_getf (v := .ref 2) (j := 1) dX7_count_85 clX7 flX7_16 (Nat.le_of_ble_eq_true rfl) zc_H0 rfl rfl ?_
  refine zm_callVi (as := []) (rest := []) dX7_count_88 rfl mtX0_pupilsWithSome lkX7_284 zc_H2 (C := RX0) rfl rfl rfl (Nat.le_of_ble_eq_true rfl) hC rfl (fun r u hq => ?_)
  refine zm_sub [] rfl ?_
  exact k r u hq
theorem gX7_count_91 {d : Nat} {Q : Value → zm_S → Prop} {w : zm_S} {s0 : Int32} (k : Q (.int s0) w) : zm_T zc_H d mX7_count Q 91 [] [.int s0] w := by
  exact zm_ireturn dX7_count_91 rfl k
theorem gX7_count_92 {d : Nat} {Q : Value → zm_S → Prop} {w : zm_S} (k : Q (.int (w.1 11 3)) w) : zm_T zc_H d mX7_count Q 92 [(0, .ref 0)] [] w := by
  refine zm_aload_n (x := 0) 0 dX7_count_92 rfl rfl ?_
  refine zm_getf (v := .ref 11) (j := 2) dX7_count_93 clX7 flX7_23 (Nat.le_of_ble_eq_true rfl) zc_H0 rfl rfl ?_
  refine zm_getf (v := .int (w.1 11 3)) (j := 3) dX7_count_96 clX2 flX7_119 (Nat.le_of_ble_eq_true rfl) zc_H11 rfl rfl ?_
  exact zm_ireturn dX7_count_99 rfl k
theorem gX7_count_100 {d : Nat} {Q : Value → zm_S → Prop} {w : zm_S} (k : Q (.int (w.1 11 4)) w) : zm_T zc_H d mX7_count Q 100 [(0, .ref 0)] [] w := by
  refine zm_aload_n (x := 0) 0 dX7_count_100 rfl rfl ?_
  refine zm_getf (v := .ref 11) (j := 2) dX7_count_101 clX7 flX7_23 (Nat.le_of_ble_eq_true rfl) zc_H0 rfl rfl ?_
  refine zm_getf (v := .int (w.1 11 4)) (j := 4) dX7_count_104 clX2 flX7_287 (Nat.le_of_ble_eq_true rfl) zc_H11 rfl rfl ?_
  exact zm_ireturn dX7_count_107 rfl k
theorem gX7_count_108 {d : Nat} {Q : Value → zm_S → Prop} {w : zm_S} (hi113 : vp_in (2 : Int32) 4) (k : Q (.int (w.1 1 ((2 : Int32)).toNatClampNeg)) w) : zm_T zc_H d mX7_count Q 108 [(0, .ref 0)] [] w := by
  refine zm_aload_n (x := 0) 0 dX7_count_108 rfl rfl ?_
  refine zm_getf (v := .ref 1) (j := 0) dX7_count_109 clX7 flX7_9 (Nat.le_of_ble_eq_true rfl) zc_H0 rfl rfl ?_
  refine zm_iconst dX7_count_112 (v := (2 : Int32)) (by decide) ?_
  refine zm_iald dX7_count_113 zc_H1 hi113 ?_
  exact zm_ireturn dX7_count_114 rfl k
theorem gX7_count_115 {d : Nat} {Q : Value → zm_S → Prop} {w : zm_S} (k : Q (.int (w.1 0 8)) w) : zm_T zc_H d mX7_count Q 115 [(0, .ref 0)] [] w := by
  refine zm_aload_n (x := 0) 0 dX7_count_115 rfl rfl ?_
  refine zm_getf (v := .int (w.1 0 8)) (j := 8) dX7_count_116 clX7 flX7_266 (Nat.le_of_ble_eq_true rfl) zc_H0 rfl rfl ?_
  exact zm_ireturn dX7_count_119 rfl k
theorem gX7_count_120 {d : Nat} {Q : Value → zm_S → Prop} {w : zm_S} (k : Q (.int (-2 : Int32)) w) : zm_T zc_H d mX7_count Q 120 [] [] w := by
  refine zm_bipush dX7_count_120 (v := (-2 : Int32)) (by decide) ?_
  exact zm_ireturn dX7_count_122 rfl k
theorem gX7_digest_0 {d : Nat} {Q : Value → zm_S → Prop} {w : zm_S} (k : zm_T zc_H d mX7_digest Q 6 [(0, .ref 0), (1, .long (17 : Int64)), (3, .int (0 : Int32))] [] w) : zm_T zc_H d mX7_digest Q 0 [(0, .ref 0)] [] w := by
  refine zm_ldc2_w dX7_digest_0 kcX7_290 ?_
  refine zm_lstore_n dX7_digest_3 rfl (Nat.le_of_ble_eq_true rfl) (ls' := [(1, .long (17 : Int64)), (0, .ref 0)]) rfl ?_
  refine zm_iconst dX7_digest_4 (v := (0 : Int32)) (by decide) ?_
  refine zm_istore_n dX7_digest_5 rfl (Nat.le_of_ble_eq_true rfl) (ls' := [(3, .int (0 : Int32)), (1, .long (17 : Int64)), (0, .ref 0)]) rfl ?_
  refine zm_sub [2, 1, 0] rfl ?_
  exact k
theorem gX7_digest_6 {d : Nat} {Q : Value → zm_S → Prop} {w : zm_S} {a1 : Int64} {a3 : Int32} (kt : (7 : Int32) < a3 → zm_T zc_H d mX7_digest Q 29 [(0, .ref 0), (1, .long a1)] [] w) (kf : ¬ (7 : Int32) < a3 → zm_T zc_H d mX7_digest Q 12 [(0, .ref 0), (1, .long a1), (3, .int a3)] [] w) : zm_T zc_H d mX7_digest Q 6 [(0, .ref 0), (1, .long a1), (3, .int a3)] [] w := by
  refine zm_iload_n (x := a3) 2 dX7_digest_6 rfl rfl ?_
  refine zm_bipush dX7_digest_7 (v := (7 : Int32)) (by decide) ?_
  refine zm_icmp_gt 29 dX7_digest_9 (by decide) (fun h => ?_) (fun h => ?_)
  · refine zm_sub [0, 1] rfl ?_
    exact kt h
  · exact kf h
theorem gX7_digest_12 {d : Nat} {Q : Value → zm_S → Prop} {w : zm_S} {a1 : Int64} {a3 : Int32} {Q' : Value → zm_S → Prop} (hC : zm_C zc_H d mX7_count [.ref 0, .int a3] w Q') (k : ∀ (r : Int32) (u : zm_S), Q' (.int r) u → zm_T zc_H (d + 1) mX7_digest Q 18 [(0, .ref 0), (3, .int a3)] [.int r, .long a1] u) : zm_T zc_H (d + 1) mX7_digest Q 12 [(0, .ref 0), (1, .long a1), (3, .int a3)] [] w := by
  refine zm_lload_n (x := a1) 1 dX7_digest_12 rfl rfl ?_
  refine zm_aload_n (x := 0) 0 dX7_digest_13 rfl rfl ?_
  refine zm_iload_n (x := a3) 2 dX7_digest_14 rfl rfl ?_
  refine zm_callVi (as := [.int a3]) (rest := [.long a1]) dX7_digest_15 rfl mtX7_count lkX7_292 zc_H0 (C := RX7) rfl rfl rfl (Nat.le_of_ble_eq_true rfl) hC rfl (fun r u hq => ?_)
  refine zm_sub [0, 2] rfl ?_
  exact k r u hq
theorem gX7_digest_18 {d : Nat} {Q : Value → zm_S → Prop} {w : zm_S} {a3 : Int32} {s0 : Int32} {s1 : Int64} {Q' : Value → zm_S → Prop} (hC : zm_C zc_H d mX7_join [.long s1, .long ((s0).toInt64)] w Q') (k : ∀ (r : Int64) (u : zm_S), Q' (.long r) u → zm_T zc_H (d + 1) mX7_digest Q 22 [(0, .ref 0), (3, .int a3)] [.long r] u) : zm_T zc_H (d + 1) mX7_digest Q 18 [(0, .ref 0), (3, .int a3)] [.int s0, .long s1] w := by
  refine zm_i2l dX7_digest_18 ?_
  refine zm_callSl (as := [.long s1, .long ((s0).toInt64)]) (rest := []) dX7_digest_19 rfl mtX7_join lkX7_295 rfl (Nat.le_of_ble_eq_true rfl) hC rfl (fun r u hq => ?_)
  exact k r u hq
theorem gX7_digest_22 {d : Nat} {Q : Value → zm_S → Prop} {w : zm_S} {a3 : Int32} {s0 : Int64} (k : zm_T zc_H d mX7_digest Q 6 [(0, .ref 0), (1, .long s0), (3, .int (a3 + (1 : Int32)))] [] w) : zm_T zc_H d mX7_digest Q 22 [(0, .ref 0), (3, .int a3)] [.long s0] w := by
  refine zm_lstore_n dX7_digest_22 rfl (Nat.le_of_ble_eq_true rfl) (ls' := [(1, .long s0), (0, .ref 0), (3, .int a3)]) rfl ?_
  refine zm_iinc 2 dX7_digest_23 (x := a3) (v := (a3 + (1 : Int32))) rfl rfl (Nat.le_of_ble_eq_true rfl) (ls' := [(3, .int (a3 + (1 : Int32))), (1, .long s0), (0, .ref 0)]) rfl ?_
  refine zm_goto 6 dX7_digest_26 (by decide) ?_
  refine zm_sub [2, 1, 0] rfl ?_
  exact k
theorem gX7_digest_29 {d : Nat} {Q : Value → zm_S → Prop} {w : zm_S} {a1 : Int64} {Q' : Value → zm_S → Prop} (hC : zm_C zc_H d mX7_fault [.ref 0] w Q') (k : ∀ (r : Int32) (u : zm_S), Q' (.int r) u → zm_T zc_H (d + 1) mX7_digest Q 34 [(0, .ref 0)] [.int r, .long a1] u) : zm_T zc_H (d + 1) mX7_digest Q 29 [(0, .ref 0), (1, .long a1)] [] w := by
  refine zm_lload_n (x := a1) 1 dX7_digest_29 rfl rfl ?_
  refine zm_aload_n (x := 0) 0 dX7_digest_30 rfl rfl ?_
  refine zm_callVi (as := []) (rest := [.long a1]) dX7_digest_31 rfl mtX7_fault lkX7_299 zc_H0 (C := RX7) rfl rfl rfl (Nat.le_of_ble_eq_true rfl) hC rfl (fun r u hq => ?_)
  refine zm_sub [0] rfl ?_
  exact k r u hq
theorem gX7_digest_34 {d : Nat} {Q : Value → zm_S → Prop} {w : zm_S} {s0 : Int32} {s1 : Int64} {Q' : Value → zm_S → Prop} (hC : zm_C zc_H d mX7_join [.long s1, .long ((s0).toInt64)] w Q') (k : ∀ (r : Int64) (u : zm_S), Q' (.long r) u → zm_T zc_H (d + 1) mX7_digest Q 38 [(0, .ref 0)] [.long r] u) : zm_T zc_H (d + 1) mX7_digest Q 34 [(0, .ref 0)] [.int s0, .long s1] w := by
  refine zm_i2l dX7_digest_34 ?_
  refine zm_callSl (as := [.long s1, .long ((s0).toInt64)]) (rest := []) dX7_digest_35 rfl mtX7_join lkX7_295 rfl (Nat.le_of_ble_eq_true rfl) hC rfl (fun r u hq => ?_)
  exact k r u hq
theorem gX7_digest_38 {d : Nat} {Q : Value → zm_S → Prop} {w : zm_S} {s0 : Int64} (k : zm_T zc_H d mX7_digest Q 41 [(0, .ref 0), (1, .long s0), (3, .int (0 : Int32))] [] w) : zm_T zc_H d mX7_digest Q 38 [(0, .ref 0)] [.long s0] w := by
  refine zm_lstore_n dX7_digest_38 rfl (Nat.le_of_ble_eq_true rfl) (ls' := [(1, .long s0), (0, .ref 0)]) rfl ?_
  refine zm_iconst dX7_digest_39 (v := (0 : Int32)) (by decide) ?_
  refine zm_istore_n dX7_digest_40 rfl (Nat.le_of_ble_eq_true rfl) (ls' := [(3, .int (0 : Int32)), (1, .long s0), (0, .ref 0)]) rfl ?_
  refine zm_sub [2, 1, 0] rfl ?_
  exact k
theorem gX7_digest_41 {d : Nat} {Q : Value → zm_S → Prop} {w : zm_S} {a1 : Int64} {a3 : Int32} (kt : (12 : Int32) ≤ a3 → zm_T zc_H d mX7_digest Q 60 [(0, .ref 0), (1, .long a1)] [] w) (kf : ¬ (12 : Int32) ≤ a3 → zm_T zc_H d mX7_digest Q 47 [(0, .ref 0), (1, .long a1), (3, .int a3)] [] w) : zm_T zc_H d mX7_digest Q 41 [(0, .ref 0), (1, .long a1), (3, .int a3)] [] w := by
  refine zm_iload_n (x := a3) 2 dX7_digest_41 rfl rfl ?_
  refine zm_bipush dX7_digest_42 (v := (12 : Int32)) (by decide) ?_
  refine zm_icmp_ge 60 dX7_digest_44 (by decide) (fun h => ?_) (fun h => ?_)
  · refine zm_sub [0, 1] rfl ?_
    exact kt h
  · exact kf h
theorem gX7_digest_47 {d : Nat} {Q : Value → zm_S → Prop} {w : zm_S} {a1 : Int64} {a3 : Int32} {Q' : Value → zm_S → Prop} (hC : zm_C zc_H d mX7_joinPupil [.ref 0, .long a1, .int a3] w Q') (k : ∀ (r : Int64) (u : zm_S), Q' (.long r) u → zm_T zc_H (d + 1) mX7_digest Q 53 [(0, .ref 0), (3, .int a3)] [.long r] u) : zm_T zc_H (d + 1) mX7_digest Q 47 [(0, .ref 0), (1, .long a1), (3, .int a3)] [] w := by
  refine zm_aload_n (x := 0) 0 dX7_digest_47 rfl rfl ?_
  refine zm_lload_n (x := a1) 1 dX7_digest_48 rfl rfl ?_
  refine zm_iload_n (x := a3) 2 dX7_digest_49 rfl rfl ?_
  refine zm_callVl (as := [.long a1, .int a3]) (rest := []) dX7_digest_50 rfl mtX7_joinPupil lkX7_302 zc_H0 (C := RX7) rfl rfl rfl (Nat.le_of_ble_eq_true rfl) hC rfl (fun r u hq => ?_)
  refine zm_sub [0, 2] rfl ?_
  exact k r u hq
theorem gX7_digest_53 {d : Nat} {Q : Value → zm_S → Prop} {w : zm_S} {a3 : Int32} {s0 : Int64} (k : zm_T zc_H d mX7_digest Q 41 [(0, .ref 0), (1, .long s0), (3, .int (a3 + (1 : Int32)))] [] w) : zm_T zc_H d mX7_digest Q 53 [(0, .ref 0), (3, .int a3)] [.long s0] w := by
  refine zm_lstore_n dX7_digest_53 rfl (Nat.le_of_ble_eq_true rfl) (ls' := [(1, .long s0), (0, .ref 0), (3, .int a3)]) rfl ?_
  refine zm_iinc 2 dX7_digest_54 (x := a3) (v := (a3 + (1 : Int32))) rfl rfl (Nat.le_of_ble_eq_true rfl) (ls' := [(3, .int (a3 + (1 : Int32))), (1, .long s0), (0, .ref 0)]) rfl ?_
  refine zm_goto 41 dX7_digest_57 (by decide) ?_
  refine zm_sub [2, 1, 0] rfl ?_
  exact k
theorem gX7_digest_60 {d : Nat} {Q : Value → zm_S → Prop} {w : zm_S} {a1 : Int64} {Q' : Value → zm_S → Prop} (hC : zm_C zc_H d mX7_off [.ref 0, .int (0 : Int32)] w Q') (k : ∀ (r : Int32) (u : zm_S), Q' (.int r) u → zm_T zc_H (d + 1) mX7_digest Q 66 [(0, .ref 0)] [.int r, .long a1] u) : zm_T zc_H (d + 1) mX7_digest Q 60 [(0, .ref 0), (1, .long a1)] [] w := by
  refine zm_lload_n (x := a1) 1 dX7_digest_60 rfl rfl ?_
  refine zm_aload_n (x := 0) 0 dX7_digest_61 rfl rfl ?_
  refine zm_iconst dX7_digest_62 (v := (0 : Int32)) (by decide) ?_
  refine zm_callVi (as := [.int (0 : Int32)]) (rest := [.long a1]) dX7_digest_63 rfl mtX7_off lkX7_306 zc_H0 (C := RX7) rfl rfl rfl (Nat.le_of_ble_eq_true rfl) hC rfl (fun r u hq => ?_)
  refine zm_sub [0] rfl ?_
  exact k r u hq
theorem gX7_digest_66 {d : Nat} {Q : Value → zm_S → Prop} {w : zm_S} {s0 : Int32} {s1 : Int64} {Q' : Value → zm_S → Prop} (hC : zm_C zc_H d mX7_join [.long s1, .long ((s0).toInt64)] w Q') (k : ∀ (r : Int64) (u : zm_S), Q' (.long r) u → zm_T zc_H (d + 1) mX7_digest Q 70 [(0, .ref 0)] [.long r] u) : zm_T zc_H (d + 1) mX7_digest Q 66 [(0, .ref 0)] [.int s0, .long s1] w := by
  refine zm_i2l dX7_digest_66 ?_
  refine zm_callSl (as := [.long s1, .long ((s0).toInt64)]) (rest := []) dX7_digest_67 rfl mtX7_join lkX7_295 rfl (Nat.le_of_ble_eq_true rfl) hC rfl (fun r u hq => ?_)
  exact k r u hq
theorem gX7_digest_70 {d : Nat} {Q : Value → zm_S → Prop} {w : zm_S} {s0 : Int64} {Q' : Value → zm_S → Prop} (hC : zm_C zc_H d mX7_off [.ref 0, .int (1 : Int32)] w Q') (k : ∀ (r : Int32) (u : zm_S), Q' (.int r) u → zm_T zc_H (d + 1) mX7_digest Q 75 [(0, .ref 0)] [.int r, .long s0] u) : zm_T zc_H (d + 1) mX7_digest Q 70 [(0, .ref 0)] [.long s0] w := by
  refine zm_aload_n (x := 0) 0 dX7_digest_70 rfl rfl ?_
  refine zm_iconst dX7_digest_71 (v := (1 : Int32)) (by decide) ?_
  refine zm_callVi (as := [.int (1 : Int32)]) (rest := [.long s0]) dX7_digest_72 rfl mtX7_off lkX7_306 zc_H0 (C := RX7) rfl rfl rfl (Nat.le_of_ble_eq_true rfl) hC rfl (fun r u hq => ?_)
  exact k r u hq
theorem gX7_digest_75 {d : Nat} {Q : Value → zm_S → Prop} {w : zm_S} {s0 : Int32} {s1 : Int64} {Q' : Value → zm_S → Prop} (hC : zm_C zc_H d mX7_join [.long s1, .long ((s0).toInt64)] w Q') (k : ∀ (r : Int64) (u : zm_S), Q' (.long r) u → zm_T zc_H (d + 1) mX7_digest Q 79 [(0, .ref 0)] [.long r] u) : zm_T zc_H (d + 1) mX7_digest Q 75 [(0, .ref 0)] [.int s0, .long s1] w := by
  refine zm_i2l dX7_digest_75 ?_
  refine zm_callSl (as := [.long s1, .long ((s0).toInt64)]) (rest := []) dX7_digest_76 rfl mtX7_join lkX7_295 rfl (Nat.le_of_ble_eq_true rfl) hC rfl (fun r u hq => ?_)
  exact k r u hq
theorem gX7_digest_79 {d : Nat} {Q : Value → zm_S → Prop} {w : zm_S} {s0 : Int64} (k : zm_T zc_H d mX7_digest Q 82 [(0, .ref 0), (1, .long s0), (3, .int (0 : Int32))] [] w) : zm_T zc_H d mX7_digest Q 79 [(0, .ref 0)] [.long s0] w := by
  refine zm_lstore_n dX7_digest_79 rfl (Nat.le_of_ble_eq_true rfl) (ls' := [(1, .long s0), (0, .ref 0)]) rfl ?_
  refine zm_iconst dX7_digest_80 (v := (0 : Int32)) (by decide) ?_
  refine zm_istore_n dX7_digest_81 rfl (Nat.le_of_ble_eq_true rfl) (ls' := [(3, .int (0 : Int32)), (1, .long s0), (0, .ref 0)]) rfl ?_
  refine zm_sub [2, 1, 0] rfl ?_
  exact k
theorem gX7_digest_82 {d : Nat} {Q : Value → zm_S → Prop} {w : zm_S} {a1 : Int64} {a3 : Int32} (kt : (w.1 2 9) ≤ a3 → zm_T zc_H d mX7_digest Q 106 [(0, .ref 0), (1, .long a1)] [] w) (kf : ¬ (w.1 2 9) ≤ a3 → zm_T zc_H d mX7_digest Q 93 [(0, .ref 0), (1, .long a1), (3, .int a3)] [] w) : zm_T zc_H d mX7_digest Q 82 [(0, .ref 0), (1, .long a1), (3, .int a3)] [] w := by
  refine zm_iload_n (x := a3) 2 dX7_digest_82 rfl rfl ?_
  refine zm_aload_n (x := 0) 0 dX7_digest_83 rfl rfl ?_
  refine zm_getf (v := .ref 2) (j := 1) dX7_digest_84 clX7 flX7_16 (Nat.le_of_ble_eq_true rfl) zc_H0 rfl rfl ?_
  refine zm_getf (v := .int (w.1 2 9)) (j := 9) dX7_digest_87 clX0 flX7_183 (Nat.le_of_ble_eq_true rfl) zc_H2 rfl rfl ?_
  refine zm_icmp_ge 106 dX7_digest_90 (by decide) (fun h => ?_) (fun h => ?_)
  · refine zm_sub [0, 1] rfl ?_
    exact kt h
  · exact kf h
theorem gX7_digest_93 {d : Nat} {Q : Value → zm_S → Prop} {w : zm_S} {a1 : Int64} {a3 : Int32} {Q' : Value → zm_S → Prop} (hC : zm_C zc_H d mX7_joinQuestion [.ref 0, .long a1, .int a3] w Q') (k : ∀ (r : Int64) (u : zm_S), Q' (.long r) u → zm_T zc_H (d + 1) mX7_digest Q 99 [(0, .ref 0), (3, .int a3)] [.long r] u) : zm_T zc_H (d + 1) mX7_digest Q 93 [(0, .ref 0), (1, .long a1), (3, .int a3)] [] w := by
  refine zm_aload_n (x := 0) 0 dX7_digest_93 rfl rfl ?_
  refine zm_lload_n (x := a1) 1 dX7_digest_94 rfl rfl ?_
  refine zm_iload_n (x := a3) 2 dX7_digest_95 rfl rfl ?_
  refine zm_callVl (as := [.long a1, .int a3]) (rest := []) dX7_digest_96 rfl mtX7_joinQuestion lkX7_309 zc_H0 (C := RX7) rfl rfl rfl (Nat.le_of_ble_eq_true rfl) hC rfl (fun r u hq => ?_)
  refine zm_sub [0, 2] rfl ?_
  exact k r u hq
theorem gX7_digest_99 {d : Nat} {Q : Value → zm_S → Prop} {w : zm_S} {a3 : Int32} {s0 : Int64} (k : zm_T zc_H d mX7_digest Q 82 [(0, .ref 0), (1, .long s0), (3, .int (a3 + (1 : Int32)))] [] w) : zm_T zc_H d mX7_digest Q 99 [(0, .ref 0), (3, .int a3)] [.long s0] w := by
  refine zm_lstore_n dX7_digest_99 rfl (Nat.le_of_ble_eq_true rfl) (ls' := [(1, .long s0), (0, .ref 0), (3, .int a3)]) rfl ?_
  refine zm_iinc 2 dX7_digest_100 (x := a3) (v := (a3 + (1 : Int32))) rfl rfl (Nat.le_of_ble_eq_true rfl) (ls' := [(3, .int (a3 + (1 : Int32))), (1, .long s0), (0, .ref 0)]) rfl ?_
  refine zm_goto 82 dX7_digest_103 (by decide) ?_
  refine zm_sub [2, 1, 0] rfl ?_
  exact k
theorem gX7_digest_106 {d : Nat} {Q : Value → zm_S → Prop} {w : zm_S} {a1 : Int64} (k : zm_T zc_H d mX7_digest Q 108 [(0, .ref 0), (1, .long a1), (3, .int (0 : Int32))] [] w) : zm_T zc_H d mX7_digest Q 106 [(0, .ref 0), (1, .long a1)] [] w := by
  refine zm_iconst dX7_digest_106 (v := (0 : Int32)) (by decide) ?_
  refine zm_istore_n dX7_digest_107 rfl (Nat.le_of_ble_eq_true rfl) (ls' := [(3, .int (0 : Int32)), (0, .ref 0), (1, .long a1)]) rfl ?_
  refine zm_sub [1, 2, 0] rfl ?_
  exact k
theorem gX7_digest_108 {d : Nat} {Q : Value → zm_S → Prop} {w : zm_S} {a1 : Int64} {a3 : Int32} (kt : (2 : Int32) ≤ a3 → zm_T zc_H d mX7_digest Q 139 [(0, .ref 0), (1, .long a1)] [] w) (kf : ¬ (2 : Int32) ≤ a3 → zm_T zc_H d mX7_digest Q 113 [(0, .ref 0), (1, .long a1), (3, .int a3)] [] w) : zm_T zc_H d mX7_digest Q 108 [(0, .ref 0), (1, .long a1), (3, .int a3)] [] w := by
  refine zm_iload_n (x := a3) 2 dX7_digest_108 rfl rfl ?_
  refine zm_iconst dX7_digest_109 (v := (2 : Int32)) (by decide) ?_
  refine zm_icmp_ge 139 dX7_digest_110 (by decide) (fun h => ?_) (fun h => ?_)
  · refine zm_sub [0, 1] rfl ?_
    exact kt h
  · exact kf h
theorem gX7_digest_113 {d : Nat} {Q : Value → zm_S → Prop} {w : zm_S} {a1 : Int64} {a3 : Int32} {Q' : Value → zm_S → Prop} (hC : zm_C zc_H d mX7_fit [.ref 0, .int a3, .int (0 : Int32)] w Q') (k : ∀ (r : Int64) (u : zm_S), Q' (.long r) u → zm_T zc_H (d + 1) mX7_digest Q 120 [(0, .ref 0), (3, .int a3)] [.long r, .long a1] u) : zm_T zc_H (d + 1) mX7_digest Q 113 [(0, .ref 0), (1, .long a1), (3, .int a3)] [] w := by
  refine zm_lload_n (x := a1) 1 dX7_digest_113 rfl rfl ?_
  refine zm_aload_n (x := 0) 0 dX7_digest_114 rfl rfl ?_
  refine zm_iload_n (x := a3) 2 dX7_digest_115 rfl rfl ?_
  refine zm_iconst dX7_digest_116 (v := (0 : Int32)) (by decide) ?_
  refine zm_callVl (as := [.int a3, .int (0 : Int32)]) (rest := [.long a1]) dX7_digest_117 rfl mtX7_fit lkX7_312 zc_H0 (C := RX7) rfl rfl rfl (Nat.le_of_ble_eq_true rfl) hC rfl (fun r u hq => ?_)
  refine zm_sub [0, 2] rfl ?_
  exact k r u hq
theorem gX7_digest_120 {d : Nat} {Q : Value → zm_S → Prop} {w : zm_S} {a3 : Int32} {s0 : Int64} {s1 : Int64} {Q' : Value → zm_S → Prop} (hC : zm_C zc_H d mX7_join [.long s1, .long s0] w Q') (k : ∀ (r : Int64) (u : zm_S), Q' (.long r) u → zm_T zc_H (d + 1) mX7_digest Q 123 [(0, .ref 0), (3, .int a3)] [.long r] u) : zm_T zc_H (d + 1) mX7_digest Q 120 [(0, .ref 0), (3, .int a3)] [.long s0, .long s1] w := by
  refine zm_callSl (as := [.long s1, .long s0]) (rest := []) dX7_digest_120 rfl mtX7_join lkX7_295 rfl (Nat.le_of_ble_eq_true rfl) hC rfl (fun r u hq => ?_)
  exact k r u hq
theorem gX7_digest_123 {d : Nat} {Q : Value → zm_S → Prop} {w : zm_S} {a3 : Int32} {s0 : Int64} {Q' : Value → zm_S → Prop} (hC : zm_C zc_H d mX7_fit [.ref 0, .int a3, .int (1 : Int32)] w Q') (k : ∀ (r : Int64) (u : zm_S), Q' (.long r) u → zm_T zc_H (d + 1) mX7_digest Q 129 [(0, .ref 0), (3, .int a3)] [.long r, .long s0] u) : zm_T zc_H (d + 1) mX7_digest Q 123 [(0, .ref 0), (3, .int a3)] [.long s0] w := by
  refine zm_aload_n (x := 0) 0 dX7_digest_123 rfl rfl ?_
  refine zm_iload_n (x := a3) 1 dX7_digest_124 rfl rfl ?_
  refine zm_iconst dX7_digest_125 (v := (1 : Int32)) (by decide) ?_
  refine zm_callVl (as := [.int a3, .int (1 : Int32)]) (rest := [.long s0]) dX7_digest_126 rfl mtX7_fit lkX7_312 zc_H0 (C := RX7) rfl rfl rfl (Nat.le_of_ble_eq_true rfl) hC rfl (fun r u hq => ?_)
  exact k r u hq
theorem gX7_digest_129 {d : Nat} {Q : Value → zm_S → Prop} {w : zm_S} {a3 : Int32} {s0 : Int64} {s1 : Int64} {Q' : Value → zm_S → Prop} (hC : zm_C zc_H d mX7_join [.long s1, .long s0] w Q') (k : ∀ (r : Int64) (u : zm_S), Q' (.long r) u → zm_T zc_H (d + 1) mX7_digest Q 132 [(0, .ref 0), (3, .int a3)] [.long r] u) : zm_T zc_H (d + 1) mX7_digest Q 129 [(0, .ref 0), (3, .int a3)] [.long s0, .long s1] w := by
  refine zm_callSl (as := [.long s1, .long s0]) (rest := []) dX7_digest_129 rfl mtX7_join lkX7_295 rfl (Nat.le_of_ble_eq_true rfl) hC rfl (fun r u hq => ?_)
  exact k r u hq
theorem gX7_digest_132 {d : Nat} {Q : Value → zm_S → Prop} {w : zm_S} {a3 : Int32} {s0 : Int64} (k : zm_T zc_H d mX7_digest Q 108 [(0, .ref 0), (1, .long s0), (3, .int (a3 + (1 : Int32)))] [] w) : zm_T zc_H d mX7_digest Q 132 [(0, .ref 0), (3, .int a3)] [.long s0] w := by
  refine zm_lstore_n dX7_digest_132 rfl (Nat.le_of_ble_eq_true rfl) (ls' := [(1, .long s0), (0, .ref 0), (3, .int a3)]) rfl ?_
  refine zm_iinc 2 dX7_digest_133 (x := a3) (v := (a3 + (1 : Int32))) rfl rfl (Nat.le_of_ble_eq_true rfl) (ls' := [(3, .int (a3 + (1 : Int32))), (1, .long s0), (0, .ref 0)]) rfl ?_
  refine zm_goto 108 dX7_digest_136 (by decide) ?_
  refine zm_sub [2, 1, 0] rfl ?_
  exact k
theorem gX7_digest_139 {d : Nat} {Q : Value → zm_S → Prop} {w : zm_S} {a1 : Int64} {Q' : Value → zm_S → Prop} (hC : zm_C zc_H d mX7_odd [.ref 0] w Q') (k : ∀ (r : Int32) (u : zm_S), Q' (.int r) u → zm_T zc_H (d + 1) mX7_digest Q 144 [(0, .ref 0)] [.int r, .long a1] u) : zm_T zc_H (d + 1) mX7_digest Q 139 [(0, .ref 0), (1, .long a1)] [] w := by
  refine zm_lload_n (x := a1) 1 dX7_digest_139 rfl rfl ?_
  refine zm_aload_n (x := 0) 0 dX7_digest_140 rfl rfl ?_
  refine zm_callVi (as := []) (rest := [.long a1]) dX7_digest_141 rfl mtX7_odd lkX7_316 zc_H0 (C := RX7) rfl rfl rfl (Nat.le_of_ble_eq_true rfl) hC rfl (fun r u hq => ?_)
  refine zm_sub [0] rfl ?_
  exact k r u hq
theorem gX7_digest_144 {d : Nat} {Q : Value → zm_S → Prop} {w : zm_S} {s0 : Int32} {s1 : Int64} {Q' : Value → zm_S → Prop} (hC : zm_C zc_H d mX7_join [.long s1, .long ((s0).toInt64)] w Q') (k : ∀ (r : Int64) (u : zm_S), Q' (.long r) u → zm_T zc_H (d + 1) mX7_digest Q 148 [(0, .ref 0)] [.long r] u) : zm_T zc_H (d + 1) mX7_digest Q 144 [(0, .ref 0)] [.int s0, .long s1] w := by
  refine zm_i2l dX7_digest_144 ?_
  refine zm_callSl (as := [.long s1, .long ((s0).toInt64)]) (rest := []) dX7_digest_145 rfl mtX7_join lkX7_295 rfl (Nat.le_of_ble_eq_true rfl) hC rfl (fun r u hq => ?_)
  exact k r u hq
theorem gX7_digest_148 {d : Nat} {Q : Value → zm_S → Prop} {w : zm_S} {s0 : Int64} {Q' : Value → zm_S → Prop} (hC : zm_C zc_H d mX7_worst [.ref 0, .int (0 : Int32)] w Q') (k : ∀ (r : Int32) (u : zm_S), Q' (.int r) u → zm_T zc_H (d + 1) mX7_digest Q 153 [(0, .ref 0)] [.int r, .long s0] u) : zm_T zc_H (d + 1) mX7_digest Q 148 [(0, .ref 0)] [.long s0] w := by
  refine zm_aload_n (x := 0) 0 dX7_digest_148 rfl rfl ?_
  refine zm_iconst dX7_digest_149 (v := (0 : Int32)) (by decide) ?_
  refine zm_callVi (as := [.int (0 : Int32)]) (rest := [.long s0]) dX7_digest_150 rfl mtX7_worst lkX7_319 zc_H0 (C := RX7) rfl rfl rfl (Nat.le_of_ble_eq_true rfl) hC rfl (fun r u hq => ?_)
  exact k r u hq
theorem gX7_digest_153 {d : Nat} {Q : Value → zm_S → Prop} {w : zm_S} {s0 : Int32} {s1 : Int64} {Q' : Value → zm_S → Prop} (hC : zm_C zc_H d mX7_join [.long s1, .long ((s0).toInt64)] w Q') (k : ∀ (r : Int64) (u : zm_S), Q' (.long r) u → zm_T zc_H (d + 1) mX7_digest Q 157 [(0, .ref 0)] [.long r] u) : zm_T zc_H (d + 1) mX7_digest Q 153 [(0, .ref 0)] [.int s0, .long s1] w := by
  refine zm_i2l dX7_digest_153 ?_
  refine zm_callSl (as := [.long s1, .long ((s0).toInt64)]) (rest := []) dX7_digest_154 rfl mtX7_join lkX7_295 rfl (Nat.le_of_ble_eq_true rfl) hC rfl (fun r u hq => ?_)
  exact k r u hq
theorem gX7_digest_157 {d : Nat} {Q : Value → zm_S → Prop} {w : zm_S} {s0 : Int64} {Q' : Value → zm_S → Prop} (hC : zm_C zc_H d mX7_worst [.ref 0, .int (1 : Int32)] w Q') (k : ∀ (r : Int32) (u : zm_S), Q' (.int r) u → zm_T zc_H (d + 1) mX7_digest Q 162 [(0, .ref 0)] [.int r, .long s0] u) : zm_T zc_H (d + 1) mX7_digest Q 157 [(0, .ref 0)] [.long s0] w := by
  refine zm_aload_n (x := 0) 0 dX7_digest_157 rfl rfl ?_
  refine zm_iconst dX7_digest_158 (v := (1 : Int32)) (by decide) ?_
  refine zm_callVi (as := [.int (1 : Int32)]) (rest := [.long s0]) dX7_digest_159 rfl mtX7_worst lkX7_319 zc_H0 (C := RX7) rfl rfl rfl (Nat.le_of_ble_eq_true rfl) hC rfl (fun r u hq => ?_)
  exact k r u hq
theorem gX7_digest_162 {d : Nat} {Q : Value → zm_S → Prop} {w : zm_S} {s0 : Int32} {s1 : Int64} {Q' : Value → zm_S → Prop} (hC : zm_C zc_H d mX7_join [.long s1, .long ((s0).toInt64)] w Q') (k : ∀ (r : Int64) (u : zm_S), Q' (.long r) u → zm_T zc_H (d + 1) mX7_digest Q 166 [(0, .ref 0)] [.long r] u) : zm_T zc_H (d + 1) mX7_digest Q 162 [(0, .ref 0)] [.int s0, .long s1] w := by
  refine zm_i2l dX7_digest_162 ?_
  refine zm_callSl (as := [.long s1, .long ((s0).toInt64)]) (rest := []) dX7_digest_163 rfl mtX7_join lkX7_295 rfl (Nat.le_of_ble_eq_true rfl) hC rfl (fun r u hq => ?_)
  exact k r u hq
theorem gX7_digest_166 {d : Nat} {Q : Value → zm_S → Prop} {w : zm_S} {s0 : Int64} {Q' : Value → zm_S → Prop} (hC : zm_C zc_H d mX7_states [.ref 0, .int (-1 : Int32)] w Q') (k : ∀ (r : Int32) (u : zm_S), Q' (.int r) u → zm_T zc_H (d + 1) mX7_digest Q 173 [(0, .ref 0)] [.int r, .long s0] u) : zm_T zc_H (d + 1) mX7_digest Q 166 [(0, .ref 0)] [.long s0] w := by
  refine zm_lstore_n dX7_digest_166 rfl (Nat.le_of_ble_eq_true rfl) (ls' := [(1, .long s0), (0, .ref 0)]) rfl ?_
  refine zm_lload_n (x := s0) 0 dX7_digest_167 rfl rfl ?_
  refine zm_aload_n (x := 0) 1 dX7_digest_168 rfl rfl ?_
  refine zm_iconst dX7_digest_169 (v := (-1 : Int32)) (by decide) ?_
  refine zm_callVi (as := [.int (-1 : Int32)]) (rest := [.long s0]) dX7_digest_170 rfl mtX7_states lkX7_322 zc_H0 (C := RX7) rfl rfl rfl (Nat.le_of_ble_eq_true rfl) hC rfl (fun r u hq => ?_)
  refine zm_sub [1] rfl ?_
  exact k r u hq
theorem gX7_digest_173 {d : Nat} {Q : Value → zm_S → Prop} {w : zm_S} {s0 : Int32} {s1 : Int64} {Q' : Value → zm_S → Prop} (hC : zm_C zc_H d mX7_join [.long s1, .long ((s0).toInt64)] w Q') (k : ∀ (r : Int64) (u : zm_S), Q' (.long r) u → zm_T zc_H (d + 1) mX7_digest Q 177 [(0, .ref 0)] [.long r] u) : zm_T zc_H (d + 1) mX7_digest Q 173 [(0, .ref 0)] [.int s0, .long s1] w := by
  refine zm_i2l dX7_digest_173 ?_
  refine zm_callSl (as := [.long s1, .long ((s0).toInt64)]) (rest := []) dX7_digest_174 rfl mtX7_join lkX7_295 rfl (Nat.le_of_ble_eq_true rfl) hC rfl (fun r u hq => ?_)
  exact k r u hq
theorem gX7_digest_177 {d : Nat} {Q : Value → zm_S → Prop} {w : zm_S} {s0 : Int64} {Q' : Value → zm_S → Prop} (hC : zm_C zc_H d mX7_paths [.ref 0] w Q') (k : ∀ (r : Int32) (u : zm_S), Q' (.int r) u → zm_T zc_H (d + 1) mX7_digest Q 181 [(0, .ref 0)] [.int r, .long s0] u) : zm_T zc_H (d + 1) mX7_digest Q 177 [(0, .ref 0)] [.long s0] w := by
  refine zm_aload_n (x := 0) 0 dX7_digest_177 rfl rfl ?_
  refine zm_callVi (as := []) (rest := [.long s0]) dX7_digest_178 rfl mtX7_paths lkX7_325 zc_H0 (C := RX7) rfl rfl rfl (Nat.le_of_ble_eq_true rfl) hC rfl (fun r u hq => ?_)
  exact k r u hq
theorem gX7_digest_181 {d : Nat} {Q : Value → zm_S → Prop} {w : zm_S} {s0 : Int32} {s1 : Int64} {Q' : Value → zm_S → Prop} (hC : zm_C zc_H d mX7_join [.long s1, .long ((s0).toInt64)] w Q') (k : ∀ (r : Int64) (u : zm_S), Q' (.long r) u → zm_T zc_H (d + 1) mX7_digest Q 185 [(0, .ref 0)] [.long r] u) : zm_T zc_H (d + 1) mX7_digest Q 181 [(0, .ref 0)] [.int s0, .long s1] w := by
  refine zm_i2l dX7_digest_181 ?_
  refine zm_callSl (as := [.long s1, .long ((s0).toInt64)]) (rest := []) dX7_digest_182 rfl mtX7_join lkX7_295 rfl (Nat.le_of_ble_eq_true rfl) hC rfl (fun r u hq => ?_)
  exact k r u hq
theorem gX7_digest_185 {d : Nat} {Q : Value → zm_S → Prop} {w : zm_S} {s0 : Int64} {Q' : Value → zm_S → Prop} (hC : zm_C zc_H d mX7_sure [.ref 0, .int (0 : Int32), .int (0 : Int32), .int (0 : Int32)] w Q') (k : ∀ (r : Int32) (u : zm_S), Q' (.int r) u → zm_T zc_H (d + 1) mX7_digest Q 194 [(0, .ref 0)] [.int r, .long s0] u) : zm_T zc_H (d + 1) mX7_digest Q 185 [(0, .ref 0)] [.long s0] w := by
  refine zm_lstore_n dX7_digest_185 rfl (Nat.le_of_ble_eq_true rfl) (ls' := [(1, .long s0), (0, .ref 0)]) rfl ?_
  refine zm_lload_n (x := s0) 0 dX7_digest_186 rfl rfl ?_
  refine zm_aload_n (x := 0) 1 dX7_digest_187 rfl rfl ?_
  refine zm_iconst dX7_digest_188 (v := (0 : Int32)) (by decide) ?_
  refine zm_iconst dX7_digest_189 (v := (0 : Int32)) (by decide) ?_
  refine zm_iconst dX7_digest_190 (v := (0 : Int32)) (by decide) ?_
  refine zm_callVi (as := [.int (0 : Int32), .int (0 : Int32), .int (0 : Int32)]) (rest := [.long s0]) dX7_digest_191 rfl mtX7_sure lkX7_328 zc_H0 (C := RX7) rfl rfl rfl (Nat.le_of_ble_eq_true rfl) hC rfl (fun r u hq => ?_)
  refine zm_sub [1] rfl ?_
  exact k r u hq
theorem gX7_digest_194 {d : Nat} {Q : Value → zm_S → Prop} {w : zm_S} {s0 : Int32} {s1 : Int64} {Q' : Value → zm_S → Prop} (hC : zm_C zc_H d mX7_join [.long s1, .long ((s0).toInt64)] w Q') (k : ∀ (r : Int64) (u : zm_S), Q' (.long r) u → zm_T zc_H (d + 1) mX7_digest Q 198 [(0, .ref 0)] [.long r] u) : zm_T zc_H (d + 1) mX7_digest Q 194 [(0, .ref 0)] [.int s0, .long s1] w := by
  refine zm_i2l dX7_digest_194 ?_
  refine zm_callSl (as := [.long s1, .long ((s0).toInt64)]) (rest := []) dX7_digest_195 rfl mtX7_join lkX7_295 rfl (Nat.le_of_ble_eq_true rfl) hC rfl (fun r u hq => ?_)
  exact k r u hq
theorem gX7_digest_198 {d : Nat} {Q : Value → zm_S → Prop} {w : zm_S} {s0 : Int64} {Q' : Value → zm_S → Prop} (hC : zm_C zc_H d mX7_sure [.ref 0, .int (0 : Int32), .int (0 : Int32), .int (1 : Int32)] w Q') (k : ∀ (r : Int32) (u : zm_S), Q' (.int r) u → zm_T zc_H (d + 1) mX7_digest Q 205 [(0, .ref 0)] [.int r, .long s0] u) : zm_T zc_H (d + 1) mX7_digest Q 198 [(0, .ref 0)] [.long s0] w := by
  refine zm_aload_n (x := 0) 0 dX7_digest_198 rfl rfl ?_
  refine zm_iconst dX7_digest_199 (v := (0 : Int32)) (by decide) ?_
  refine zm_iconst dX7_digest_200 (v := (0 : Int32)) (by decide) ?_
  refine zm_iconst dX7_digest_201 (v := (1 : Int32)) (by decide) ?_
  refine zm_callVi (as := [.int (0 : Int32), .int (0 : Int32), .int (1 : Int32)]) (rest := [.long s0]) dX7_digest_202 rfl mtX7_sure lkX7_328 zc_H0 (C := RX7) rfl rfl rfl (Nat.le_of_ble_eq_true rfl) hC rfl (fun r u hq => ?_)
  exact k r u hq
theorem gX7_digest_205 {d : Nat} {Q : Value → zm_S → Prop} {w : zm_S} {s0 : Int32} {s1 : Int64} {Q' : Value → zm_S → Prop} (hC : zm_C zc_H d mX7_join [.long s1, .long ((s0).toInt64)] w Q') (k : ∀ (r : Int64) (u : zm_S), Q' (.long r) u → zm_T zc_H (d + 1) mX7_digest Q 209 [(0, .ref 0)] [.long r] u) : zm_T zc_H (d + 1) mX7_digest Q 205 [(0, .ref 0)] [.int s0, .long s1] w := by
  refine zm_i2l dX7_digest_205 ?_
  refine zm_callSl (as := [.long s1, .long ((s0).toInt64)]) (rest := []) dX7_digest_206 rfl mtX7_join lkX7_295 rfl (Nat.le_of_ble_eq_true rfl) hC rfl (fun r u hq => ?_)
  exact k r u hq
theorem gX7_digest_209 {d : Nat} {Q : Value → zm_S → Prop} {w : zm_S} {s0 : Int64} {Q' : Value → zm_S → Prop} (hC : zm_C zc_H d mX7_lessons [.ref 0, .int (2 : Int32), .int (-1 : Int32)] w Q') (k : ∀ (r : Int32) (u : zm_S), Q' (.int r) u → zm_T zc_H (d + 1) mX7_digest Q 217 [] [.int r, .long s0] u) : zm_T zc_H (d + 1) mX7_digest Q 209 [(0, .ref 0)] [.long s0] w := by
  refine zm_lstore_n dX7_digest_209 rfl (Nat.le_of_ble_eq_true rfl) (ls' := [(1, .long s0), (0, .ref 0)]) rfl ?_
  refine zm_lload_n (x := s0) 0 dX7_digest_210 rfl rfl ?_
  refine zm_aload_n (x := 0) 1 dX7_digest_211 rfl rfl ?_
  refine zm_iconst dX7_digest_212 (v := (2 : Int32)) (by decide) ?_
  refine zm_iconst dX7_digest_213 (v := (-1 : Int32)) (by decide) ?_
  refine zm_callVi (as := [.int (2 : Int32), .int (-1 : Int32)]) (rest := [.long s0]) dX7_digest_214 rfl mtX7_lessons lkX7_332 zc_H0 (C := RX7) rfl rfl rfl (Nat.le_of_ble_eq_true rfl) hC rfl (fun r u hq => ?_)
  refine zm_sub [] rfl ?_
  exact k r u hq
theorem gX7_digest_217 {d : Nat} {Q : Value → zm_S → Prop} {w : zm_S} {s0 : Int32} {s1 : Int64} {Q' : Value → zm_S → Prop} (hC : zm_C zc_H d mX7_join [.long s1, .long ((s0).toInt64)] w Q') (k : ∀ (r : Int64) (u : zm_S), Q' (.long r) u → zm_T zc_H (d + 1) mX7_digest Q 221 [] [.long r] u) : zm_T zc_H (d + 1) mX7_digest Q 217 [] [.int s0, .long s1] w := by
  refine zm_i2l dX7_digest_217 ?_
  refine zm_callSl (as := [.long s1, .long ((s0).toInt64)]) (rest := []) dX7_digest_218 rfl mtX7_join lkX7_295 rfl (Nat.le_of_ble_eq_true rfl) hC rfl (fun r u hq => ?_)
  exact k r u hq
theorem gX7_digest_221 {d : Nat} {Q : Value → zm_S → Prop} {w : zm_S} {s0 : Int64} (k : Q (.long s0) w) : zm_T zc_H d mX7_digest Q 221 [] [.long s0] w := by
  exact zm_lreturn dX7_digest_221 rfl k
theorem gX7_join_0 {d : Nat} {Q : Value → zm_S → Prop} {w : zm_S} {a0 : Int64} {a2 : Int64} (k : Q (.long (((31 : Int64) * a0) + a2)) w) : zm_T zc_H d mX7_join Q 0 [(0, .long a0), (2, .long a2)] [] w := by
  refine zm_ldc2_w dX7_join_0 kcX7_335 ?_
  refine zm_lload_n (x := a0) 0 dX7_join_3 rfl rfl ?_
  refine zm_lmul dX7_join_4 ?_
  refine zm_lload_n (x := a2) 1 dX7_join_5 rfl rfl ?_
  refine zm_ladd dX7_join_6 ?_
  exact zm_lreturn dX7_join_7 rfl k
theorem gX7_joinPupil_0 {d : Nat} {Q : Value → zm_S → Prop} {w : zm_S} {a1 : Int64} {a3 : Int32} {Q' : Value → zm_S → Prop} (hC : zm_C zc_H d mX7_step [.ref 0, .int a3, .int (0 : Int32)] w Q') (k : ∀ (r : Int32) (u : zm_S), Q' (.int r) u → zm_T zc_H (d + 1) mX7_joinPupil Q 7 [(0, .ref 0), (3, .int a3)] [.int r, .long a1] u) : zm_T zc_H (d + 1) mX7_joinPupil Q 0 [(0, .ref 0), (1, .long a1), (3, .int a3)] [] w := by
  refine zm_lload_n (x := a1) 1 dX7_joinPupil_0 rfl rfl ?_
  refine zm_aload_n (x := 0) 0 dX7_joinPupil_1 rfl rfl ?_
  refine zm_iload_n (x := a3) 2 dX7_joinPupil_2 rfl rfl ?_
  refine zm_iconst dX7_joinPupil_3 (v := (0 : Int32)) (by decide) ?_
  refine zm_callVi (as := [.int a3, .int (0 : Int32)]) (rest := [.long a1]) dX7_joinPupil_4 rfl mtX7_step lkX7_337 zc_H0 (C := RX7) rfl rfl rfl (Nat.le_of_ble_eq_true rfl) hC rfl (fun r u hq => ?_)
  refine zm_sub [0, 2] rfl ?_
  exact k r u hq
theorem gX7_joinPupil_7 {d : Nat} {Q : Value → zm_S → Prop} {w : zm_S} {a3 : Int32} {s0 : Int32} {s1 : Int64} {Q' : Value → zm_S → Prop} (hC : zm_C zc_H d mX7_join [.long s1, .long ((s0).toInt64)] w Q') (k : ∀ (r : Int64) (u : zm_S), Q' (.long r) u → zm_T zc_H (d + 1) mX7_joinPupil Q 11 [(0, .ref 0), (3, .int a3)] [.long r] u) : zm_T zc_H (d + 1) mX7_joinPupil Q 7 [(0, .ref 0), (3, .int a3)] [.int s0, .long s1] w := by
  refine zm_i2l dX7_joinPupil_7 ?_
  refine zm_callSl (as := [.long s1, .long ((s0).toInt64)]) (rest := []) dX7_joinPupil_8 rfl mtX7_join lkX7_295 rfl (Nat.le_of_ble_eq_true rfl) hC rfl (fun r u hq => ?_)
  exact k r u hq
theorem gX7_joinPupil_11 {d : Nat} {Q : Value → zm_S → Prop} {w : zm_S} {a3 : Int32} {s0 : Int64} {Q' : Value → zm_S → Prop} (hC : zm_C zc_H d mX7_step [.ref 0, .int a3, .int (1 : Int32)] w Q') (k : ∀ (r : Int32) (u : zm_S), Q' (.int r) u → zm_T zc_H (d + 1) mX7_joinPupil Q 17 [(0, .ref 0), (3, .int a3)] [.int r, .long s0] u) : zm_T zc_H (d + 1) mX7_joinPupil Q 11 [(0, .ref 0), (3, .int a3)] [.long s0] w := by
  refine zm_aload_n (x := 0) 0 dX7_joinPupil_11 rfl rfl ?_
  refine zm_iload_n (x := a3) 1 dX7_joinPupil_12 rfl rfl ?_
  refine zm_iconst dX7_joinPupil_13 (v := (1 : Int32)) (by decide) ?_
  refine zm_callVi (as := [.int a3, .int (1 : Int32)]) (rest := [.long s0]) dX7_joinPupil_14 rfl mtX7_step lkX7_337 zc_H0 (C := RX7) rfl rfl rfl (Nat.le_of_ble_eq_true rfl) hC rfl (fun r u hq => ?_)
  exact k r u hq
theorem gX7_joinPupil_17 {d : Nat} {Q : Value → zm_S → Prop} {w : zm_S} {a3 : Int32} {s0 : Int32} {s1 : Int64} {Q' : Value → zm_S → Prop} (hC : zm_C zc_H d mX7_join [.long s1, .long ((s0).toInt64)] w Q') (k : ∀ (r : Int64) (u : zm_S), Q' (.long r) u → zm_T zc_H (d + 1) mX7_joinPupil Q 21 [(0, .ref 0), (3, .int a3)] [.long r] u) : zm_T zc_H (d + 1) mX7_joinPupil Q 17 [(0, .ref 0), (3, .int a3)] [.int s0, .long s1] w := by
  refine zm_i2l dX7_joinPupil_17 ?_
  refine zm_callSl (as := [.long s1, .long ((s0).toInt64)]) (rest := []) dX7_joinPupil_18 rfl mtX7_join lkX7_295 rfl (Nat.le_of_ble_eq_true rfl) hC rfl (fun r u hq => ?_)
  exact k r u hq
theorem gX7_joinPupil_21 {d : Nat} {Q : Value → zm_S → Prop} {w : zm_S} {a3 : Int32} {s0 : Int64} (k : zm_T zc_H d mX7_joinPupil Q 26 [(0, .ref 0), (3, .int a3), (4, .long s0), (6, .int (0 : Int32))] [] w) : zm_T zc_H d mX7_joinPupil Q 21 [(0, .ref 0), (3, .int a3)] [.long s0] w := by
  refine zm_lstore dX7_joinPupil_21 (Nat.le_of_ble_eq_true rfl) (ls' := [(4, .long s0), (0, .ref 0), (3, .int a3)]) rfl ?_
  refine zm_iconst dX7_joinPupil_23 (v := (0 : Int32)) (by decide) ?_
  refine zm_istore dX7_joinPupil_24 (Nat.le_of_ble_eq_true rfl) (ls' := [(6, .int (0 : Int32)), (4, .long s0), (0, .ref 0), (3, .int a3)]) rfl ?_
  refine zm_sub [2, 3, 1, 0] rfl ?_
  exact k
theorem gX7_joinPupil_26 {d : Nat} {Q : Value → zm_S → Prop} {w : zm_S} {a3 : Int32} {a4 : Int64} {a6 : Int32} (kt : (3 : Int32) ≤ a6 → zm_T zc_H d mX7_joinPupil Q 53 [(0, .ref 0), (3, .int a3), (4, .long a4)] [] w) (kf : ¬ (3 : Int32) ≤ a6 → zm_T zc_H d mX7_joinPupil Q 32 [(0, .ref 0), (3, .int a3), (4, .long a4), (6, .int a6)] [] w) : zm_T zc_H d mX7_joinPupil Q 26 [(0, .ref 0), (3, .int a3), (4, .long a4), (6, .int a6)] [] w := by
  refine zm_iload (x := a6) 3 dX7_joinPupil_26 rfl ?_
  refine zm_iconst dX7_joinPupil_28 (v := (3 : Int32)) (by decide) ?_
  refine zm_icmp_ge 53 dX7_joinPupil_29 (by decide) (fun h => ?_) (fun h => ?_)
  · refine zm_sub [0, 1, 2] rfl ?_
    exact kt h
  · exact kf h
theorem gX7_joinPupil_32 {d : Nat} {Q : Value → zm_S → Prop} {w : zm_S} {a3 : Int32} {a4 : Int64} {a6 : Int32} {Q' : Value → zm_S → Prop} (hC : zm_C zc_H d mX7_belongs [.ref 0, .int a3, .int a6] w Q') (k : ∀ (r : Int32) (u : zm_S), Q' (.int r) u → zm_T zc_H (d + 1) mX7_joinPupil Q 41 [(0, .ref 0), (3, .int a3), (6, .int a6)] [.int r, .long a4] u) : zm_T zc_H (d + 1) mX7_joinPupil Q 32 [(0, .ref 0), (3, .int a3), (4, .long a4), (6, .int a6)] [] w := by
  refine zm_lload (x := a4) 2 dX7_joinPupil_32 rfl ?_
  refine zm_aload_n (x := 0) 0 dX7_joinPupil_34 rfl rfl ?_
  refine zm_iload_n (x := a3) 1 dX7_joinPupil_35 rfl rfl ?_
  refine zm_iload (x := a6) 3 dX7_joinPupil_36 rfl ?_
  refine zm_callVi (as := [.int a3, .int a6]) (rest := [.long a4]) dX7_joinPupil_38 rfl mtX7_belongs lkX7_340 zc_H0 (C := RX7) rfl rfl rfl (Nat.le_of_ble_eq_true rfl) hC rfl (fun r u hq => ?_)
  refine zm_sub [0, 1, 3] rfl ?_
  exact k r u hq
theorem gX7_joinPupil_41 {d : Nat} {Q : Value → zm_S → Prop} {w : zm_S} {a3 : Int32} {a6 : Int32} {s0 : Int32} {s1 : Int64} {Q' : Value → zm_S → Prop} (hC : zm_C zc_H d mX7_join [.long s1, .long ((s0).toInt64)] w Q') (k : ∀ (r : Int64) (u : zm_S), Q' (.long r) u → zm_T zc_H (d + 1) mX7_joinPupil Q 45 [(0, .ref 0), (3, .int a3), (6, .int a6)] [.long r] u) : zm_T zc_H (d + 1) mX7_joinPupil Q 41 [(0, .ref 0), (3, .int a3), (6, .int a6)] [.int s0, .long s1] w := by
  refine zm_i2l dX7_joinPupil_41 ?_
  refine zm_callSl (as := [.long s1, .long ((s0).toInt64)]) (rest := []) dX7_joinPupil_42 rfl mtX7_join lkX7_295 rfl (Nat.le_of_ble_eq_true rfl) hC rfl (fun r u hq => ?_)
  exact k r u hq
theorem gX7_joinPupil_45 {d : Nat} {Q : Value → zm_S → Prop} {w : zm_S} {a3 : Int32} {a6 : Int32} {s0 : Int64} (k : zm_T zc_H d mX7_joinPupil Q 26 [(0, .ref 0), (3, .int a3), (4, .long s0), (6, .int (a6 + (1 : Int32)))] [] w) : zm_T zc_H d mX7_joinPupil Q 45 [(0, .ref 0), (3, .int a3), (6, .int a6)] [.long s0] w := by
  refine zm_lstore dX7_joinPupil_45 (Nat.le_of_ble_eq_true rfl) (ls' := [(4, .long s0), (0, .ref 0), (3, .int a3), (6, .int a6)]) rfl ?_
  refine zm_iinc 3 dX7_joinPupil_47 (x := a6) (v := (a6 + (1 : Int32))) rfl rfl (Nat.le_of_ble_eq_true rfl) (ls' := [(6, .int (a6 + (1 : Int32))), (4, .long s0), (0, .ref 0), (3, .int a3)]) rfl ?_
  refine zm_goto 26 dX7_joinPupil_50 (by decide) ?_
  refine zm_sub [2, 3, 1, 0] rfl ?_
  exact k
theorem gX7_joinPupil_53 {d : Nat} {Q : Value → zm_S → Prop} {w : zm_S} {a3 : Int32} {a4 : Int64} {Q' : Value → zm_S → Prop} (hC : zm_C zc_H d mX7_likeliest [.ref 0, .int a3, .int (2 : Int32), .int (3 : Int32)] w Q') (k : ∀ (r : Int32) (u : zm_S), Q' (.int r) u → zm_T zc_H (d + 1) mX7_joinPupil Q 62 [] [.int r, .long a4] u) : zm_T zc_H (d + 1) mX7_joinPupil Q 53 [(0, .ref 0), (3, .int a3), (4, .long a4)] [] w := by
  refine zm_lload (x := a4) 2 dX7_joinPupil_53 rfl ?_
  refine zm_aload_n (x := 0) 0 dX7_joinPupil_55 rfl rfl ?_
  refine zm_iload_n (x := a3) 1 dX7_joinPupil_56 rfl rfl ?_
  refine zm_iconst dX7_joinPupil_57 (v := (2 : Int32)) (by decide) ?_
  refine zm_iconst dX7_joinPupil_58 (v := (3 : Int32)) (by decide) ?_
  refine zm_callVi (as := [.int a3, .int (2 : Int32), .int (3 : Int32)]) (rest := [.long a4]) dX7_joinPupil_59 rfl mtX7_likeliest lkX7_343 zc_H0 (C := RX7) rfl rfl rfl (Nat.le_of_ble_eq_true rfl) hC rfl (fun r u hq => ?_)
  refine zm_sub [] rfl ?_
  exact k r u hq
theorem gX7_joinPupil_62 {d : Nat} {Q : Value → zm_S → Prop} {w : zm_S} {s0 : Int32} {s1 : Int64} {Q' : Value → zm_S → Prop} (hC : zm_C zc_H d mX7_join [.long s1, .long ((s0).toInt64)] w Q') (k : ∀ (r : Int64) (u : zm_S), Q' (.long r) u → zm_T zc_H (d + 1) mX7_joinPupil Q 66 [] [.long r] u) : zm_T zc_H (d + 1) mX7_joinPupil Q 62 [] [.int s0, .long s1] w := by
  refine zm_i2l dX7_joinPupil_62 ?_
  refine zm_callSl (as := [.long s1, .long ((s0).toInt64)]) (rest := []) dX7_joinPupil_63 rfl mtX7_join lkX7_295 rfl (Nat.le_of_ble_eq_true rfl) hC rfl (fun r u hq => ?_)
  exact k r u hq
theorem gX7_joinPupil_66 {d : Nat} {Q : Value → zm_S → Prop} {w : zm_S} {s0 : Int64} (k : Q (.long s0) w) : zm_T zc_H d mX7_joinPupil Q 66 [] [.long s0] w := by
  exact zm_lreturn dX7_joinPupil_66 rfl k
theorem gX7_joinQuestion_0 {d : Nat} {Q : Value → zm_S → Prop} {w : zm_S} {a1 : Int64} {a3 : Int32} (kt : (w.1 2 9) ≤ (a3 + (1 : Int32)) → zm_T zc_H d mX7_joinQuestion Q 19 [(0, .ref 0), (1, .long a1), (3, .int a3)] [] w) (kf : ¬ (w.1 2 9) ≤ (a3 + (1 : Int32)) → zm_T zc_H d mX7_joinQuestion Q 13 [(0, .ref 0), (1, .long a1), (3, .int a3)] [] w) : zm_T zc_H d mX7_joinQuestion Q 0 [(0, .ref 0), (1, .long a1), (3, .int a3)] [] w := by
  refine zm_iload_n (x := a3) 2 dX7_joinQuestion_0 rfl rfl ?_
  refine zm_iconst dX7_joinQuestion_1 (v := (1 : Int32)) (by decide) ?_
  refine zm_iadd dX7_joinQuestion_2 ?_
  refine zm_aload_n (x := 0) 0 dX7_joinQuestion_3 rfl rfl ?_
  refine zm_getf (v := .ref 2) (j := 1) dX7_joinQuestion_4 clX7 flX7_16 (Nat.le_of_ble_eq_true rfl) zc_H0 rfl rfl ?_
  refine zm_getf (v := .int (w.1 2 9)) (j := 9) dX7_joinQuestion_7 clX0 flX7_183 (Nat.le_of_ble_eq_true rfl) zc_H2 rfl rfl ?_
  refine zm_icmp_ge 19 dX7_joinQuestion_10 (by decide) (fun h => ?_) (fun h => ?_)
  · exact kt h
  · exact kf h
theorem gX7_joinQuestion_13 {d : Nat} {Q : Value → zm_S → Prop} {w : zm_S} {a1 : Int64} {a3 : Int32} (k : zm_T zc_H d mX7_joinQuestion Q 20 [(0, .ref 0), (1, .long a1), (3, .int a3)] [.int (a3 + (1 : Int32))] w) : zm_T zc_H d mX7_joinQuestion Q 13 [(0, .ref 0), (1, .long a1), (3, .int a3)] [] w := by
  refine zm_iload_n (x := a3) 2 dX7_joinQuestion_13 rfl rfl ?_
  refine zm_iconst dX7_joinQuestion_14 (v := (1 : Int32)) (by decide) ?_
  refine zm_iadd dX7_joinQuestion_15 ?_
  refine zm_goto 20 dX7_joinQuestion_16 (by decide) ?_
  exact k
theorem gX7_joinQuestion_19 {d : Nat} {Q : Value → zm_S → Prop} {w : zm_S} {a1 : Int64} {a3 : Int32} (k : zm_T zc_H d mX7_joinQuestion Q 20 [(0, .ref 0), (1, .long a1), (3, .int a3)] [.int (0 : Int32)] w) : zm_T zc_H d mX7_joinQuestion Q 19 [(0, .ref 0), (1, .long a1), (3, .int a3)] [] w := by
  refine zm_iconst dX7_joinQuestion_19 (v := (0 : Int32)) (by decide) ?_
  exact k
theorem gX7_joinQuestion_20 {d : Nat} {Q : Value → zm_S → Prop} {w : zm_S} {a1 : Int64} {a3 : Int32} {s0 : Int32} {Q' : Value → zm_S → Prop} (hC : zm_C zc_H d mX7_row [.ref 0, .int a3] w Q') (k : ∀ (r : Int32) (u : zm_S), Q' (.int r) u → zm_T zc_H (d + 1) mX7_joinQuestion Q 28 [(0, .ref 0), (3, .int a3), (4, .int s0)] [.int r, .long a1] u) : zm_T zc_H (d + 1) mX7_joinQuestion Q 20 [(0, .ref 0), (1, .long a1), (3, .int a3)] [.int s0] w := by
  refine zm_istore dX7_joinQuestion_20 (Nat.le_of_ble_eq_true rfl) (ls' := [(4, .int s0), (0, .ref 0), (1, .long a1), (3, .int a3)]) rfl ?_
  refine zm_lload_n (x := a1) 2 dX7_joinQuestion_22 rfl rfl ?_
  refine zm_aload_n (x := 0) 1 dX7_joinQuestion_23 rfl rfl ?_
  refine zm_iload_n (x := a3) 3 dX7_joinQuestion_24 rfl rfl ?_
  refine zm_callVi (as := [.int a3]) (rest := [.long a1]) dX7_joinQuestion_25 rfl mtX7_row lkX7_346 zc_H0 (C := RX7) rfl rfl rfl (Nat.le_of_ble_eq_true rfl) hC rfl (fun r u hq => ?_)
  refine zm_sub [1, 3, 0] rfl ?_
  exact k r u hq
theorem gX7_joinQuestion_28 {d : Nat} {Q : Value → zm_S → Prop} {w : zm_S} {a3 : Int32} {a4 : Int32} {s0 : Int32} {s1 : Int64} {Q' : Value → zm_S → Prop} (hC : zm_C zc_H d mX7_join [.long s1, .long ((s0).toInt64)] w Q') (k : ∀ (r : Int64) (u : zm_S), Q' (.long r) u → zm_T zc_H (d + 1) mX7_joinQuestion Q 32 [(0, .ref 0), (3, .int a3), (4, .int a4)] [.long r] u) : zm_T zc_H (d + 1) mX7_joinQuestion Q 28 [(0, .ref 0), (3, .int a3), (4, .int a4)] [.int s0, .long s1] w := by
  refine zm_i2l dX7_joinQuestion_28 ?_
  refine zm_callSl (as := [.long s1, .long ((s0).toInt64)]) (rest := []) dX7_joinQuestion_29 rfl mtX7_join lkX7_295 rfl (Nat.le_of_ble_eq_true rfl) hC rfl (fun r u hq => ?_)
  exact k r u hq
theorem gX7_joinQuestion_32 {d : Nat} {Q : Value → zm_S → Prop} {w : zm_S} {a3 : Int32} {a4 : Int32} {s0 : Int64} {Q' : Value → zm_S → Prop} (hC : zm_C zc_H d mX7_without [.ref 0, .int a3, .int (0 : Int32)] w Q') (k : ∀ (r : Int32) (u : zm_S), Q' (.int r) u → zm_T zc_H (d + 1) mX7_joinQuestion Q 42 [(0, .ref 0), (3, .int a3), (4, .int a4)] [.int r, .long s0] u) : zm_T zc_H (d + 1) mX7_joinQuestion Q 32 [(0, .ref 0), (3, .int a3), (4, .int a4)] [.long s0] w := by
  refine zm_lstore dX7_joinQuestion_32 (Nat.le_of_ble_eq_true rfl) (ls' := [(5, .long s0), (0, .ref 0), (3, .int a3), (4, .int a4)]) rfl ?_
  refine zm_lload (x := s0) 0 dX7_joinQuestion_34 rfl ?_
  refine zm_aload_n (x := 0) 1 dX7_joinQuestion_36 rfl rfl ?_
  refine zm_iload_n (x := a3) 2 dX7_joinQuestion_37 rfl rfl ?_
  refine zm_iconst dX7_joinQuestion_38 (v := (0 : Int32)) (by decide) ?_
  refine zm_callVi (as := [.int a3, .int (0 : Int32)]) (rest := [.long s0]) dX7_joinQuestion_39 rfl mtX7_without lkX7_349 zc_H0 (C := RX7) rfl rfl rfl (Nat.le_of_ble_eq_true rfl) hC rfl (fun r u hq => ?_)
  refine zm_sub [1, 2, 3] rfl ?_
  exact k r u hq
theorem gX7_joinQuestion_42 {d : Nat} {Q : Value → zm_S → Prop} {w : zm_S} {a3 : Int32} {a4 : Int32} {s0 : Int32} {s1 : Int64} {Q' : Value → zm_S → Prop} (hC : zm_C zc_H d mX7_join [.long s1, .long ((s0).toInt64)] w Q') (k : ∀ (r : Int64) (u : zm_S), Q' (.long r) u → zm_T zc_H (d + 1) mX7_joinQuestion Q 46 [(0, .ref 0), (3, .int a3), (4, .int a4)] [.long r] u) : zm_T zc_H (d + 1) mX7_joinQuestion Q 42 [(0, .ref 0), (3, .int a3), (4, .int a4)] [.int s0, .long s1] w := by
  refine zm_i2l dX7_joinQuestion_42 ?_
  refine zm_callSl (as := [.long s1, .long ((s0).toInt64)]) (rest := []) dX7_joinQuestion_43 rfl mtX7_join lkX7_295 rfl (Nat.le_of_ble_eq_true rfl) hC rfl (fun r u hq => ?_)
  exact k r u hq
theorem gX7_joinQuestion_46 {d : Nat} {Q : Value → zm_S → Prop} {w : zm_S} {a3 : Int32} {a4 : Int32} {s0 : Int64} {Q' : Value → zm_S → Prop} (hC : zm_C zc_H d mX7_without [.ref 0, .int a3, .int (1 : Int32)] w Q') (k : ∀ (r : Int32) (u : zm_S), Q' (.int r) u → zm_T zc_H (d + 1) mX7_joinQuestion Q 52 [(0, .ref 0), (3, .int a3), (4, .int a4)] [.int r, .long s0] u) : zm_T zc_H (d + 1) mX7_joinQuestion Q 46 [(0, .ref 0), (3, .int a3), (4, .int a4)] [.long s0] w := by
  refine zm_aload_n (x := 0) 0 dX7_joinQuestion_46 rfl rfl ?_
  refine zm_iload_n (x := a3) 1 dX7_joinQuestion_47 rfl rfl ?_
  refine zm_iconst dX7_joinQuestion_48 (v := (1 : Int32)) (by decide) ?_
  refine zm_callVi (as := [.int a3, .int (1 : Int32)]) (rest := [.long s0]) dX7_joinQuestion_49 rfl mtX7_without lkX7_349 zc_H0 (C := RX7) rfl rfl rfl (Nat.le_of_ble_eq_true rfl) hC rfl (fun r u hq => ?_)
  exact k r u hq
theorem gX7_joinQuestion_52 {d : Nat} {Q : Value → zm_S → Prop} {w : zm_S} {a3 : Int32} {a4 : Int32} {s0 : Int32} {s1 : Int64} {Q' : Value → zm_S → Prop} (hC : zm_C zc_H d mX7_join [.long s1, .long ((s0).toInt64)] w Q') (k : ∀ (r : Int64) (u : zm_S), Q' (.long r) u → zm_T zc_H (d + 1) mX7_joinQuestion Q 56 [(0, .ref 0), (3, .int a3), (4, .int a4)] [.long r] u) : zm_T zc_H (d + 1) mX7_joinQuestion Q 52 [(0, .ref 0), (3, .int a3), (4, .int a4)] [.int s0, .long s1] w := by
  refine zm_i2l dX7_joinQuestion_52 ?_
  refine zm_callSl (as := [.long s1, .long ((s0).toInt64)]) (rest := []) dX7_joinQuestion_53 rfl mtX7_join lkX7_295 rfl (Nat.le_of_ble_eq_true rfl) hC rfl (fun r u hq => ?_)
  exact k r u hq
theorem gX7_joinQuestion_56 {d : Nat} {Q : Value → zm_S → Prop} {w : zm_S} {a3 : Int32} {a4 : Int32} {s0 : Int64} {Q' : Value → zm_S → Prop} (hC : zm_C zc_H d mX7_deep [.ref 0, .int a3] w Q') (k : ∀ (r : Int32) (u : zm_S), Q' (.int r) u → zm_T zc_H (d + 1) mX7_joinQuestion Q 65 [(0, .ref 0), (3, .int a3), (4, .int a4)] [.int r, .long s0] u) : zm_T zc_H (d + 1) mX7_joinQuestion Q 56 [(0, .ref 0), (3, .int a3), (4, .int a4)] [.long s0] w := by
  refine zm_lstore dX7_joinQuestion_56 (Nat.le_of_ble_eq_true rfl) (ls' := [(5, .long s0), (0, .ref 0), (3, .int a3), (4, .int a4)]) rfl ?_
  refine zm_lload (x := s0) 0 dX7_joinQuestion_58 rfl ?_
  refine zm_aload_n (x := 0) 1 dX7_joinQuestion_60 rfl rfl ?_
  refine zm_iload_n (x := a3) 2 dX7_joinQuestion_61 rfl rfl ?_
  refine zm_callVi (as := [.int a3]) (rest := [.long s0]) dX7_joinQuestion_62 rfl mtX7_deep lkX7_352 zc_H0 (C := RX7) rfl rfl rfl (Nat.le_of_ble_eq_true rfl) hC rfl (fun r u hq => ?_)
  refine zm_sub [1, 2, 3] rfl ?_
  exact k r u hq
theorem gX7_joinQuestion_65 {d : Nat} {Q : Value → zm_S → Prop} {w : zm_S} {a3 : Int32} {a4 : Int32} {s0 : Int32} {s1 : Int64} {Q' : Value → zm_S → Prop} (hC : zm_C zc_H d mX7_join [.long s1, .long ((s0).toInt64)] w Q') (k : ∀ (r : Int64) (u : zm_S), Q' (.long r) u → zm_T zc_H (d + 1) mX7_joinQuestion Q 69 [(0, .ref 0), (3, .int a3), (4, .int a4)] [.long r] u) : zm_T zc_H (d + 1) mX7_joinQuestion Q 65 [(0, .ref 0), (3, .int a3), (4, .int a4)] [.int s0, .long s1] w := by
  refine zm_i2l dX7_joinQuestion_65 ?_
  refine zm_callSl (as := [.long s1, .long ((s0).toInt64)]) (rest := []) dX7_joinQuestion_66 rfl mtX7_join lkX7_295 rfl (Nat.le_of_ble_eq_true rfl) hC rfl (fun r u hq => ?_)
  exact k r u hq
theorem gX7_joinQuestion_69 {d : Nat} {Q : Value → zm_S → Prop} {w : zm_S} {a3 : Int32} {a4 : Int32} {s0 : Int64} {Q' : Value → zm_S → Prop} (hC : zm_C zc_H d mX7_needed [.ref 0, .int a3, .int a4, .int (0 : Int32)] w Q') (k : ∀ (r : Int32) (u : zm_S), Q' (.int r) u → zm_T zc_H (d + 1) mX7_joinQuestion Q 81 [(0, .ref 0), (3, .int a3), (4, .int a4)] [.int r, .long s0] u) : zm_T zc_H (d + 1) mX7_joinQuestion Q 69 [(0, .ref 0), (3, .int a3), (4, .int a4)] [.long s0] w := by
  refine zm_lstore dX7_joinQuestion_69 (Nat.le_of_ble_eq_true rfl) (ls' := [(5, .long s0), (0, .ref 0), (3, .int a3), (4, .int a4)]) rfl ?_
  refine zm_lload (x := s0) 0 dX7_joinQuestion_71 rfl ?_
  refine zm_aload_n (x := 0) 1 dX7_joinQuestion_73 rfl rfl ?_
  refine zm_iload_n (x := a3) 2 dX7_joinQuestion_74 rfl rfl ?_
  refine zm_iload (x := a4) 3 dX7_joinQuestion_75 rfl ?_
  refine zm_iconst dX7_joinQuestion_77 (v := (0 : Int32)) (by decide) ?_
  refine zm_callVi (as := [.int a3, .int a4, .int (0 : Int32)]) (rest := [.long s0]) dX7_joinQuestion_78 rfl mtX7_needed lkX7_355 zc_H0 (C := RX7) rfl rfl rfl (Nat.le_of_ble_eq_true rfl) hC rfl (fun r u hq => ?_)
  refine zm_sub [1, 2, 3] rfl ?_
  exact k r u hq
theorem gX7_joinQuestion_81 {d : Nat} {Q : Value → zm_S → Prop} {w : zm_S} {a3 : Int32} {a4 : Int32} {s0 : Int32} {s1 : Int64} {Q' : Value → zm_S → Prop} (hC : zm_C zc_H d mX7_join [.long s1, .long ((s0).toInt64)] w Q') (k : ∀ (r : Int64) (u : zm_S), Q' (.long r) u → zm_T zc_H (d + 1) mX7_joinQuestion Q 85 [(0, .ref 0), (3, .int a3), (4, .int a4)] [.long r] u) : zm_T zc_H (d + 1) mX7_joinQuestion Q 81 [(0, .ref 0), (3, .int a3), (4, .int a4)] [.int s0, .long s1] w := by
  refine zm_i2l dX7_joinQuestion_81 ?_
  refine zm_callSl (as := [.long s1, .long ((s0).toInt64)]) (rest := []) dX7_joinQuestion_82 rfl mtX7_join lkX7_295 rfl (Nat.le_of_ble_eq_true rfl) hC rfl (fun r u hq => ?_)
  exact k r u hq
theorem gX7_joinQuestion_85 {d : Nat} {Q : Value → zm_S → Prop} {w : zm_S} {a3 : Int32} {a4 : Int32} {s0 : Int64} {Q' : Value → zm_S → Prop} (hC : zm_C zc_H d mX7_needed [.ref 0, .int a3, .int a4, .int (1 : Int32)] w Q') (k : ∀ (r : Int32) (u : zm_S), Q' (.int r) u → zm_T zc_H (d + 1) mX7_joinQuestion Q 93 [] [.int r, .long s0] u) : zm_T zc_H (d + 1) mX7_joinQuestion Q 85 [(0, .ref 0), (3, .int a3), (4, .int a4)] [.long s0] w := by
  refine zm_aload_n (x := 0) 0 dX7_joinQuestion_85 rfl rfl ?_
  refine zm_iload_n (x := a3) 1 dX7_joinQuestion_86 rfl rfl ?_
  refine zm_iload (x := a4) 2 dX7_joinQuestion_87 rfl ?_
  refine zm_iconst dX7_joinQuestion_89 (v := (1 : Int32)) (by decide) ?_
  refine zm_callVi (as := [.int a3, .int a4, .int (1 : Int32)]) (rest := [.long s0]) dX7_joinQuestion_90 rfl mtX7_needed lkX7_355 zc_H0 (C := RX7) rfl rfl rfl (Nat.le_of_ble_eq_true rfl) hC rfl (fun r u hq => ?_)
  refine zm_sub [] rfl ?_
  exact k r u hq
theorem gX7_joinQuestion_93 {d : Nat} {Q : Value → zm_S → Prop} {w : zm_S} {s0 : Int32} {s1 : Int64} {Q' : Value → zm_S → Prop} (hC : zm_C zc_H d mX7_join [.long s1, .long ((s0).toInt64)] w Q') (k : ∀ (r : Int64) (u : zm_S), Q' (.long r) u → zm_T zc_H (d + 1) mX7_joinQuestion Q 97 [] [.long r] u) : zm_T zc_H (d + 1) mX7_joinQuestion Q 93 [] [.int s0, .long s1] w := by
  refine zm_i2l dX7_joinQuestion_93 ?_
  refine zm_callSl (as := [.long s1, .long ((s0).toInt64)]) (rest := []) dX7_joinQuestion_94 rfl mtX7_join lkX7_295 rfl (Nat.le_of_ble_eq_true rfl) hC rfl (fun r u hq => ?_)
  exact k r u hq
theorem gX7_joinQuestion_97 {d : Nat} {Q : Value → zm_S → Prop} {w : zm_S} {s0 : Int64} (k : Q (.long s0) w) : zm_T zc_H d mX7_joinQuestion Q 97 [] [.long s0] w := by
  exact zm_lreturn dX7_joinQuestion_97 rfl k
theorem gX7_within_0 {d : Nat} {Q : Value → zm_S → Prop} {w : zm_S} {a0 : Int32} {a1 : Int32} (kt : a0 < 0 → zm_T zc_H d mX7_within Q 13 [] [] w) (kf : ¬ a0 < 0 → zm_T zc_H d mX7_within Q 4 [(0, .int a0), (1, .int a1)] [] w) : zm_T zc_H d mX7_within Q 0 [(0, .int a0), (1, .int a1)] [] w := by
  refine zm_iload_n (x := a0) 0 dX7_within_0 rfl rfl ?_
  refine zm_if_lt 13 dX7_within_1 (by decide) (fun h => ?_) (fun h => ?_)
  · refine zm_sub [] rfl ?_
    exact kt h
  · exact kf h
theorem gX7_within_4 {d : Nat} {Q : Value → zm_S → Prop} {w : zm_S} {a0 : Int32} {a1 : Int32} (kt : a1 ≤ a0 → zm_T zc_H d mX7_within Q 13 [] [] w) (kf : ¬ a1 ≤ a0 → zm_T zc_H d mX7_within Q 9 [] [] w) : zm_T zc_H d mX7_within Q 4 [(0, .int a0), (1, .int a1)] [] w := by
  refine zm_iload_n (x := a0) 0 dX7_within_4 rfl rfl ?_
  refine zm_iload_n (x := a1) 1 dX7_within_5 rfl rfl ?_
  refine zm_icmp_ge 13 dX7_within_6 (by decide) (fun h => ?_) (fun h => ?_)
  · refine zm_sub [] rfl ?_
    exact kt h
  · refine zm_sub [] rfl ?_
    exact kf h
theorem gX7_within_9 {d : Nat} {Q : Value → zm_S → Prop} {w : zm_S} (k : Q (.int (1 : Int32)) w) : zm_T zc_H d mX7_within Q 9 [] [] w := by
  refine zm_iconst dX7_within_9 (v := (1 : Int32)) (by decide) ?_
  refine zm_goto 14 dX7_within_10 (by decide) ?_
  exact zm_zreturn dX7_within_14 rfl (by decide) k
theorem gX7_within_13 {d : Nat} {Q : Value → zm_S → Prop} {w : zm_S} (k : Q (.int (0 : Int32)) w) : zm_T zc_H d mX7_within Q 13 [] [] w := by
  refine zm_iconst dX7_within_13 (v := (0 : Int32)) (by decide) ?_
  exact zm_zreturn dX7_within_14 rfl (by decide) k
theorem gX7_isQuestion_0 {d : Nat} {Q : Value → zm_S → Prop} {w : zm_S} {a1 : Int32} {Q' : Value → zm_S → Prop} (hC : zm_C zc_H d mX7_within [.int a1, .int (w.1 2 9)] w Q') (k : ∀ (r : Int32) (u : zm_S), Q' (.int r) u → zm_T zc_H (d + 1) mX7_isQuestion Q 11 [] [.int r] u) : zm_T zc_H (d + 1) mX7_isQuestion Q 0 [(0, .ref 0), (1, .int a1)] [] w := by
  refine zm_iload_n (x := a1) 1 dX7_isQuestion_0 rfl rfl ?_
  refine zm_aload_n (x := 0) 0 dX7_isQuestion_1 rfl rfl ?_
  refine zm_getf (v := .ref 2) (j := 1) dX7_isQuestion_2 clX7 flX7_16 (Nat.le_of_ble_eq_true rfl) zc_H0 rfl rfl ?_
  refine zm_getf (v := .int (w.1 2 9)) (j := 9) dX7_isQuestion_5 clX0 flX7_183 (Nat.le_of_ble_eq_true rfl) zc_H2 rfl rfl ?_
  refine zm_callSz (as := [.int a1, .int (w.1 2 9)]) (rest := []) dX7_isQuestion_8 rfl mtX7_within lkX7_62 rfl (Nat.le_of_ble_eq_true rfl) hC rfl (fun r u hq => ?_)
  refine zm_sub [] rfl ?_
  exact k r u hq
theorem gX7_isQuestion_11 {d : Nat} {Q : Value → zm_S → Prop} {w : zm_S} {s0 : Int32} (hz : s0 &&& 1 = s0) (k : Q (.int s0) w) : zm_T zc_H d mX7_isQuestion Q 11 [] [.int s0] w := by
  exact zm_zreturn dX7_isQuestion_11 rfl hz k
theorem gX7_chanceFits_0 {d : Nat} {Q : Value → zm_S → Prop} {w : zm_S} {a0 : Int32} {a1 : Int32} {a2 : Int32} {a3 : Int32} {Q' : Value → zm_S → Prop} (hC : zm_C zc_H d mX7_within [.int a0, .int (12 : Int32)] w Q') (k : ∀ (r : Int32) (u : zm_S), Q' (.int r) u → zm_T zc_H (d + 1) mX7_chanceFits Q 6 [(1, .int a1), (2, .int a2), (3, .int a3)] [.int r] u) : zm_T zc_H (d + 1) mX7_chanceFits Q 0 [(0, .int a0), (1, .int a1), (2, .int a2), (3, .int a3)] [] w := by
  refine zm_iload_n (x := a0) 0 dX7_chanceFits_0 rfl rfl ?_
  refine zm_bipush dX7_chanceFits_1 (v := (12 : Int32)) (by decide) ?_
  refine zm_callSz (as := [.int a0, .int (12 : Int32)]) (rest := []) dX7_chanceFits_3 rfl mtX7_within lkX7_62 rfl (Nat.le_of_ble_eq_true rfl) hC rfl (fun r u hq => ?_)
  refine zm_sub [1, 2, 3] rfl ?_
  exact k r u hq
theorem gX7_chanceFits_6 {d : Nat} {Q : Value → zm_S → Prop} {w : zm_S} {a1 : Int32} {a2 : Int32} {a3 : Int32} {s0 : Int32} (kt : s0 = 0 → zm_T zc_H d mX7_chanceFits Q 41 [] [] w) (kf : ¬ s0 = 0 → zm_T zc_H d mX7_chanceFits Q 9 [(1, .int a1), (2, .int a2), (3, .int a3)] [] w) : zm_T zc_H d mX7_chanceFits Q 6 [(1, .int a1), (2, .int a2), (3, .int a3)] [.int s0] w := by
  refine zm_if_eq 41 dX7_chanceFits_6 (by decide) (fun h => ?_) (fun h => ?_)
  · refine zm_sub [] rfl ?_
    exact kt h
  · exact kf h
theorem gX7_chanceFits_9 {d : Nat} {Q : Value → zm_S → Prop} {w : zm_S} {a1 : Int32} {a2 : Int32} {a3 : Int32} {Q' : Value → zm_S → Prop} (hC : zm_C zc_H d mX7_within [.int a1, .int (128 : Int32)] w Q') (k : ∀ (r : Int32) (u : zm_S), Q' (.int r) u → zm_T zc_H (d + 1) mX7_chanceFits Q 16 [(2, .int a2), (3, .int a3)] [.int r] u) : zm_T zc_H (d + 1) mX7_chanceFits Q 9 [(1, .int a1), (2, .int a2), (3, .int a3)] [] w := by
  refine zm_iload_n (x := a1) 0 dX7_chanceFits_9 rfl rfl ?_
  refine zm_sipush dX7_chanceFits_10 (v := (128 : Int32)) (by decide) ?_
  refine zm_callSz (as := [.int a1, .int (128 : Int32)]) (rest := []) dX7_chanceFits_13 rfl mtX7_within lkX7_62 rfl (Nat.le_of_ble_eq_true rfl) hC rfl (fun r u hq => ?_)
  refine zm_sub [1, 2] rfl ?_
  exact k r u hq
theorem gX7_chanceFits_16 {d : Nat} {Q : Value → zm_S → Prop} {w : zm_S} {a2 : Int32} {a3 : Int32} {s0 : Int32} (kt : s0 = 0 → zm_T zc_H d mX7_chanceFits Q 41 [] [] w) (kf : ¬ s0 = 0 → zm_T zc_H d mX7_chanceFits Q 19 [(2, .int a2), (3, .int a3)] [] w) : zm_T zc_H d mX7_chanceFits Q 16 [(2, .int a2), (3, .int a3)] [.int s0] w := by
  refine zm_if_eq 41 dX7_chanceFits_16 (by decide) (fun h => ?_) (fun h => ?_)
  · refine zm_sub [] rfl ?_
    exact kt h
  · exact kf h
theorem gX7_chanceFits_19 {d : Nat} {Q : Value → zm_S → Prop} {w : zm_S} {a2 : Int32} {a3 : Int32} {Q' : Value → zm_S → Prop} (hC : zm_C zc_H d mX7_within [.int a2, .int (17 : Int32)] w Q') (k : ∀ (r : Int32) (u : zm_S), Q' (.int r) u → zm_T zc_H (d + 1) mX7_chanceFits Q 25 [(3, .int a3)] [.int r] u) : zm_T zc_H (d + 1) mX7_chanceFits Q 19 [(2, .int a2), (3, .int a3)] [] w := by
  refine zm_iload_n (x := a2) 0 dX7_chanceFits_19 rfl rfl ?_
  refine zm_bipush dX7_chanceFits_20 (v := (17 : Int32)) (by decide) ?_
  refine zm_callSz (as := [.int a2, .int (17 : Int32)]) (rest := []) dX7_chanceFits_22 rfl mtX7_within lkX7_62 rfl (Nat.le_of_ble_eq_true rfl) hC rfl (fun r u hq => ?_)
  refine zm_sub [1] rfl ?_
  exact k r u hq
theorem gX7_chanceFits_25 {d : Nat} {Q : Value → zm_S → Prop} {w : zm_S} {a3 : Int32} {s0 : Int32} (kt : s0 = 0 → zm_T zc_H d mX7_chanceFits Q 41 [] [] w) (kf : ¬ s0 = 0 → zm_T zc_H d mX7_chanceFits Q 28 [(3, .int a3)] [] w) : zm_T zc_H d mX7_chanceFits Q 25 [(3, .int a3)] [.int s0] w := by
  refine zm_if_eq 41 dX7_chanceFits_25 (by decide) (fun h => ?_) (fun h => ?_)
  · refine zm_sub [] rfl ?_
    exact kt h
  · exact kf h
theorem gX7_chanceFits_28 {d : Nat} {Q : Value → zm_S → Prop} {w : zm_S} {a3 : Int32} {Q' : Value → zm_S → Prop} (hC : zm_C zc_H d mX7_within [.int a3, .int (17 : Int32)] w Q') (k : ∀ (r : Int32) (u : zm_S), Q' (.int r) u → zm_T zc_H (d + 1) mX7_chanceFits Q 34 [] [.int r] u) : zm_T zc_H (d + 1) mX7_chanceFits Q 28 [(3, .int a3)] [] w := by
  refine zm_iload_n (x := a3) 0 dX7_chanceFits_28 rfl rfl ?_
  refine zm_bipush dX7_chanceFits_29 (v := (17 : Int32)) (by decide) ?_
  refine zm_callSz (as := [.int a3, .int (17 : Int32)]) (rest := []) dX7_chanceFits_31 rfl mtX7_within lkX7_62 rfl (Nat.le_of_ble_eq_true rfl) hC rfl (fun r u hq => ?_)
  refine zm_sub [] rfl ?_
  exact k r u hq
theorem gX7_chanceFits_34 {d : Nat} {Q : Value → zm_S → Prop} {w : zm_S} {s0 : Int32} (kt : s0 = 0 → zm_T zc_H d mX7_chanceFits Q 41 [] [] w) (kf : ¬ s0 = 0 → zm_T zc_H d mX7_chanceFits Q 37 [] [] w) : zm_T zc_H d mX7_chanceFits Q 34 [] [.int s0] w := by
  refine zm_if_eq 41 dX7_chanceFits_34 (by decide) (fun h => ?_) (fun h => ?_)
  · exact kt h
  · exact kf h
theorem gX7_chanceFits_37 {d : Nat} {Q : Value → zm_S → Prop} {w : zm_S} (k : Q (.int (1 : Int32)) w) : zm_T zc_H d mX7_chanceFits Q 37 [] [] w := by
  refine zm_iconst dX7_chanceFits_37 (v := (1 : Int32)) (by decide) ?_
  refine zm_goto 42 dX7_chanceFits_38 (by decide) ?_
  exact zm_zreturn dX7_chanceFits_42 rfl (by decide) k
theorem gX7_chanceFits_41 {d : Nat} {Q : Value → zm_S → Prop} {w : zm_S} (k : Q (.int (0 : Int32)) w) : zm_T zc_H d mX7_chanceFits Q 41 [] [] w := by
  refine zm_iconst dX7_chanceFits_41 (v := (0 : Int32)) (by decide) ?_
  exact zm_zreturn dX7_chanceFits_42 rfl (by decide) k
theorem gX7_refusal_0 {d : Nat} {Q : Value → zm_S → Prop} {w : zm_S} {a0 : Int32} (k : Q (.long ((-9223372036854775808 : Int64) - ((a0).toInt64))) w) : zm_T zc_H d mX7_refusal Q 0 [(0, .int a0)] [] w := by
  refine zm_ldc2_w dX7_refusal_0 kcX7_360 ?_
  refine zm_iload_n (x := a0) 0 dX7_refusal_3 rfl rfl ?_
  refine zm_i2l dX7_refusal_4 ?_
  refine zm_lsub dX7_refusal_5 ?_
  exact zm_lreturn dX7_refusal_6 rfl k
theorem gX7_tellFinding_0 {d : Nat} {Q : Value → zm_S → Prop} {w : zm_S} {a1 : Int32} (k : Q (.int ((-10 : Int32) - a1)) (zm_pi w 0 8 a1)) : zm_T zc_H d mX7_tellFinding Q 0 [(0, .ref 0), (1, .int a1)] [] w := by
  refine zm_aload_n (x := 0) 0 dX7_tellFinding_0 rfl rfl ?_
  refine zm_iload_n (x := a1) 1 dX7_tellFinding_1 rfl rfl ?_
  refine zm_putf (j := 8) (ty := .int) dX7_tellFinding_2 clX7 flX7_266 (Nat.le_of_ble_eq_true rfl) zc_H0 rfl rfl (by decide +kernel) rfl rfl ?_
  refine zm_bipush dX7_tellFinding_5 (v := (-10 : Int32)) (by decide) ?_
  refine zm_iload_n (x := a1) 1 dX7_tellFinding_7 rfl rfl ?_
  refine zm_isub dX7_tellFinding_8 ?_
  exact zm_ireturn dX7_tellFinding_9 rfl k
theorem gX7_tellOne_0 {d : Nat} {Q : Value → zm_S → Prop} {w : zm_S} {a1 : Int32} {a2 : Int32} {a3 : Int32} {a4 : Int32} {Q' : Value → zm_S → Prop} (hC : zm_C zc_H d mX0_tell [.ref 2, .int a1, .int a2, .int a3, .int a4] w Q') (k : ∀ (u : zm_S), Q' .null u → zm_T zc_H (d + 1) mX7_tellOne Q 12 [(0, .ref 0)] [] u) : zm_T zc_H (d + 1) mX7_tellOne Q 0 [(0, .ref 0), (1, .int a1), (2, .int a2), (3, .int a3), (4, .int a4)] [] w := by
  refine zm_aload_n (x := 0) 0 dX7_tellOne_0 rfl rfl ?_
  refine zm_getf (v := .ref 2) (j := 1) dX7_tellOne_1 clX7 flX7_16 (Nat.le_of_ble_eq_true rfl) zc_H0 rfl rfl ?_
  refine zm_iload_n (x := a1) 1 dX7_tellOne_4 rfl rfl ?_
  refine zm_iload_n (x := a2) 2 dX7_tellOne_5 rfl rfl ?_
  refine zm_iload_n (x := a3) 3 dX7_tellOne_6 rfl rfl ?_
  refine zm_iload (x := a4) 4 dX7_tellOne_7 rfl ?_
  refine zm_callVv (as := [.int a1, .int a2, .int a3, .int a4]) (rest := []) dX7_tellOne_9 rfl mtX0_tell lkX7_362 zc_H2 (C := RX0) rfl rfl rfl (Nat.le_of_ble_eq_true rfl) hC rfl (fun u hq => ?_)
  refine zm_sub [0] rfl ?_
  exact k u hq
theorem gX7_tellOne_12 {d : Nat} {Q : Value → zm_S → Prop} {w : zm_S} (k : Q .null (zm_pi (zm_pi w 15 7 (0 : Int32)) 23 4 (0 : Int32))) : zm_T zc_H d mX7_tellOne Q 12 [(0, .ref 0)] [] w := by
  refine zm_aload_n (x := 0) 0 dX7_tellOne_12 rfl rfl ?_
  refine zm_getf (v := .ref 15) (j := 3) dX7_tellOne_13 clX7 flX7_30 (Nat.le_of_ble_eq_true rfl) zc_H0 rfl rfl ?_
  refine zm_iconst dX7_tellOne_16 (v := (0 : Int32)) (by decide) ?_
  refine zm_putf (j := 7) (ty := .boolean) dX7_tellOne_17 clX4 flX7_76 (Nat.le_of_ble_eq_true rfl) zc_H15 rfl rfl (by decide +kernel) rfl (by decide) ?_
  refine zm_aload_n (x := 0) 0 dX7_tellOne_20 rfl rfl ?_
  refine zm_getf (v := .ref 23) (j := 4) dX7_tellOne_21 clX7 flX7_37 (Nat.le_of_ble_eq_true rfl) zc_H0 rfl rfl ?_
  refine zm_iconst dX7_tellOne_24 (v := (0 : Int32)) (by decide) ?_
  refine zm_putf (j := 4) (ty := .boolean) dX7_tellOne_25 clX6 flX7_80 (Nat.le_of_ble_eq_true rfl) zc_H23 rfl rfl (by decide +kernel) rfl (by decide) ?_
  exact zm_return dX7_tellOne_28 rfl k
theorem gX7_isRow_0 {d : Nat} {Q : Value → zm_S → Prop} {w : zm_S} {oa1 : Nat} (hoa1 : zc_sh oa1) (kt : (w.1 2 9) ≤ (w.1 oa1 3) → zm_T zc_H d mX7_isRow Q 16 [(0, .ref 0), (1, .ref oa1)] [] w) (kf : ¬ (w.1 2 9) ≤ (w.1 oa1 3) → zm_T zc_H d mX7_isRow Q 14 [] [] w) : zm_T zc_H d mX7_isRow Q 0 [(0, .ref 0), (1, .ref oa1)] [] w := by
  refine zm_aload_n (x := oa1) 1 dX7_isRow_0 rfl rfl ?_
  refine zm_getf (v := .int (w.1 oa1 3)) (j := 3) dX7_isRow_1 clX5 flX7_104 (Nat.le_of_ble_eq_true rfl) hoa1.1 rfl rfl ?_
  refine zm_aload_n (x := 0) 0 dX7_isRow_4 rfl rfl ?_
  refine zm_getf (v := .ref 2) (j := 1) dX7_isRow_5 clX7 flX7_16 (Nat.le_of_ble_eq_true rfl) zc_H0 rfl rfl ?_
  refine zm_getf (v := .int (w.1 2 9)) (j := 9) dX7_isRow_8 clX0 flX7_183 (Nat.le_of_ble_eq_true rfl) zc_H2 rfl rfl ?_
  refine zm_icmp_ge 16 dX7_isRow_11 (by decide) (fun h => ?_) (fun h => ?_)
  · exact kt h
  · refine zm_sub [] rfl ?_
    exact kf h
theorem gX7_isRow_14 {d : Nat} {Q : Value → zm_S → Prop} {w : zm_S} (k : Q (.int (0 : Int32)) w) : zm_T zc_H d mX7_isRow Q 14 [] [] w := by
  refine zm_iconst dX7_isRow_14 (v := (0 : Int32)) (by decide) ?_
  exact zm_zreturn dX7_isRow_15 rfl (by decide) k
theorem gX7_isRow_16 {d : Nat} {Q : Value → zm_S → Prop} {w : zm_S} {oa1 : Nat} (hoa1 : zc_sh oa1) (k : zm_T zc_H d mX7_isRow Q 20 [(0, .ref 0), (1, .ref oa1), (2, .int (0 : Int32)), (3, .int (0 : Int32))] [] w) : zm_T zc_H d mX7_isRow Q 16 [(0, .ref 0), (1, .ref oa1)] [] w := by
  refine zm_iconst dX7_isRow_16 (v := (0 : Int32)) (by decide) ?_
  refine zm_istore_n dX7_isRow_17 rfl (Nat.le_of_ble_eq_true rfl) (ls' := [(2, .int (0 : Int32)), (0, .ref 0), (1, .ref oa1)]) rfl ?_
  refine zm_iconst dX7_isRow_18 (v := (0 : Int32)) (by decide) ?_
  refine zm_istore_n dX7_isRow_19 rfl (Nat.le_of_ble_eq_true rfl) (ls' := [(3, .int (0 : Int32)), (2, .int (0 : Int32)), (0, .ref 0), (1, .ref oa1)]) rfl ?_
  refine zm_sub [2, 3, 1, 0] rfl ?_
  exact k
theorem gX7_isRow_20 {d : Nat} {Q : Value → zm_S → Prop} {w : zm_S} {oa1 : Nat} {a2 : Int32} {a3 : Int32} (hoa1 : zc_sh oa1) (kt : (w.1 2 9) ≤ a3 → zm_T zc_H d mX7_isRow Q 63 [(0, .ref 0), (2, .int a2)] [] w) (kf : ¬ (w.1 2 9) ≤ a3 → zm_T zc_H d mX7_isRow Q 31 [(0, .ref 0), (1, .ref oa1), (2, .int a2), (3, .int a3)] [] w) : zm_T zc_H d mX7_isRow Q 20 [(0, .ref 0), (1, .ref oa1), (2, .int a2), (3, .int a3)] [] w := by
  refine zm_iload_n (x := a3) 3 dX7_isRow_20 rfl rfl ?_
  refine zm_aload_n (x := 0) 0 dX7_isRow_21 rfl rfl ?_
  refine zm_getf (v := .ref 2) (j := 1) dX7_isRow_22 clX7 flX7_16 (Nat.le_of_ble_eq_true rfl) zc_H0 rfl rfl ?_
  refine zm_getf (v := .int (w.1 2 9)) (j := 9) dX7_isRow_25 clX0 flX7_183 (Nat.le_of_ble_eq_true rfl) zc_H2 rfl rfl ?_
  refine zm_icmp_ge 63 dX7_isRow_28 (by decide) (fun h => ?_) (fun h => ?_)
  · refine zm_sub [0, 2] rfl ?_
    exact kt h
  · exact kf h
theorem gX7_isRow_31 {d : Nat} {Q : Value → zm_S → Prop} {w : zm_S} {oa1 : Nat} {a2 : Int32} {a3 : Int32} {Q' : Value → zm_S → Prop} (hoa1 : zc_sh oa1) (hi37 : vp_in a3 60) (hC : zm_C zc_H d mX7_isQuestion [.ref 0, .int (w.1 (oa1 + 1) (a3).toNatClampNeg)] w Q') (k : ∀ (r : Int32) (u : zm_S), Q' (.int r) u → zm_T zc_H (d + 1) mX7_isRow Q 41 [(0, .ref 0), (1, .ref oa1), (2, .int a2), (3, .int a3)] [.int r] u) : zm_T zc_H (d + 1) mX7_isRow Q 31 [(0, .ref 0), (1, .ref oa1), (2, .int a2), (3, .int a3)] [] w := by
  refine zm_aload_n (x := 0) 0 dX7_isRow_31 rfl rfl ?_
  refine zm_aload_n (x := oa1) 1 dX7_isRow_32 rfl rfl ?_
  refine zm_getf (v := .ref (oa1 + 1)) (j := 0) dX7_isRow_33 clX5 flX7_113 (Nat.le_of_ble_eq_true rfl) hoa1.1 rfl rfl ?_
  refine zm_iload_n (x := a3) 3 dX7_isRow_36 rfl rfl ?_
  refine zm_iald dX7_isRow_37 hoa1.2 hi37 ?_
  refine zm_callVz (as := [.int (w.1 (oa1 + 1) (a3).toNatClampNeg)]) (rest := []) dX7_isRow_38 rfl mtX7_isQuestion lkX7_132 zc_H0 (C := RX7) rfl rfl rfl (Nat.le_of_ble_eq_true rfl) hC rfl (fun r u hq => ?_)
  exact k r u hq
theorem gX7_isRow_41 {d : Nat} {Q : Value → zm_S → Prop} {w : zm_S} {oa1 : Nat} {a2 : Int32} {a3 : Int32} {s0 : Int32} (hoa1 : zc_sh oa1) (kt : ¬ s0 = 0 → zm_T zc_H d mX7_isRow Q 46 [(0, .ref 0), (1, .ref oa1), (2, .int a2), (3, .int a3)] [] w) (kf : s0 = 0 → zm_T zc_H d mX7_isRow Q 44 [] [] w) : zm_T zc_H d mX7_isRow Q 41 [(0, .ref 0), (1, .ref oa1), (2, .int a2), (3, .int a3)] [.int s0] w := by
  refine zm_if_ne 46 dX7_isRow_41 (by decide) (fun h => ?_) (fun h => ?_)
  · exact kt h
  · refine zm_sub [] rfl ?_
    exact kf h
theorem gX7_isRow_44 {d : Nat} {Q : Value → zm_S → Prop} {w : zm_S} (k : Q (.int (0 : Int32)) w) : zm_T zc_H d mX7_isRow Q 44 [] [] w := by
  refine zm_iconst dX7_isRow_44 (v := (0 : Int32)) (by decide) ?_
  exact zm_zreturn dX7_isRow_45 rfl (by decide) k
theorem gX7_isRow_46 {d : Nat} {Q : Value → zm_S → Prop} {w : zm_S} {oa1 : Nat} {a2 : Int32} {a3 : Int32} (hoa1 : zc_sh oa1) (hi53 : vp_in a3 60) (k : zm_T zc_H d mX7_isRow Q 20 [(0, .ref 0), (1, .ref oa1), (2, .int (a2 ||| ((1 : Int32) <<< ((w.1 (oa1 + 1) (a3).toNatClampNeg) &&& 31)))), (3, .int (a3 + (1 : Int32)))] [] w) : zm_T zc_H d mX7_isRow Q 46 [(0, .ref 0), (1, .ref oa1), (2, .int a2), (3, .int a3)] [] w := by
  refine zm_iload_n (x := a2) 2 dX7_isRow_46 rfl rfl ?_
  refine zm_iconst dX7_isRow_47 (v := (1 : Int32)) (by decide) ?_
  refine zm_aload_n (x := oa1) 1 dX7_isRow_48 rfl rfl ?_
  refine zm_getf (v := .ref (oa1 + 1)) (j := 0) dX7_isRow_49 clX5 flX7_113 (Nat.le_of_ble_eq_true rfl) hoa1.1 rfl rfl ?_
  refine zm_iload_n (x := a3) 3 dX7_isRow_52 rfl rfl ?_
  refine zm_iald dX7_isRow_53 hoa1.2 hi53 ?_
  refine zm_ishl dX7_isRow_54 ?_
  refine zm_ior dX7_isRow_55 ?_
  refine zm_istore_n dX7_isRow_56 rfl (Nat.le_of_ble_eq_true rfl) (ls' := [(2, .int (a2 ||| ((1 : Int32) <<< ((w.1 (oa1 + 1) (a3).toNatClampNeg) &&& 31)))), (0, .ref 0), (1, .ref oa1), (3, .int a3)]) rfl ?_
  refine zm_iinc 3 dX7_isRow_57 (x := a3) (v := (a3 + (1 : Int32))) rfl rfl (Nat.le_of_ble_eq_true rfl) (ls' := [(3, .int (a3 + (1 : Int32))), (2, .int (a2 ||| ((1 : Int32) <<< ((w.1 (oa1 + 1) (a3).toNatClampNeg) &&& 31)))), (0, .ref 0), (1, .ref oa1)]) rfl ?_
  refine zm_goto 20 dX7_isRow_60 (by decide) ?_
  refine zm_sub [2, 3, 1, 0] rfl ?_
  exact k
theorem gX7_isRow_63 {d : Nat} {Q : Value → zm_S → Prop} {w : zm_S} {a2 : Int32} (kt : ¬ a2 = (w.1 2 10) → zm_T zc_H d mX7_isRow Q 78 [] [] w) (kf : a2 = (w.1 2 10) → zm_T zc_H d mX7_isRow Q 74 [] [] w) : zm_T zc_H d mX7_isRow Q 63 [(0, .ref 0), (2, .int a2)] [] w := by
  refine zm_iload_n (x := a2) 1 dX7_isRow_63 rfl rfl ?_
  refine zm_aload_n (x := 0) 0 dX7_isRow_64 rfl rfl ?_
  refine zm_getf (v := .ref 2) (j := 1) dX7_isRow_65 clX7 flX7_16 (Nat.le_of_ble_eq_true rfl) zc_H0 rfl rfl ?_
  refine zm_getf (v := .int (w.1 2 10)) (j := 10) dX7_isRow_68 clX0 flX7_365 (Nat.le_of_ble_eq_true rfl) zc_H2 rfl rfl ?_
  refine zm_icmp_ne 78 dX7_isRow_71 (by decide) (fun h => ?_) (fun h => ?_)
  · refine zm_sub [] rfl ?_
    exact kt h
  · refine zm_sub [] rfl ?_
    exact kf h
theorem gX7_isRow_74 {d : Nat} {Q : Value → zm_S → Prop} {w : zm_S} (k : Q (.int (1 : Int32)) w) : zm_T zc_H d mX7_isRow Q 74 [] [] w := by
  refine zm_iconst dX7_isRow_74 (v := (1 : Int32)) (by decide) ?_
  refine zm_goto 79 dX7_isRow_75 (by decide) ?_
  exact zm_zreturn dX7_isRow_79 rfl (by decide) k
theorem gX7_isRow_78 {d : Nat} {Q : Value → zm_S → Prop} {w : zm_S} (k : Q (.int (0 : Int32)) w) : zm_T zc_H d mX7_isRow Q 78 [] [] w := by
  refine zm_iconst dX7_isRow_78 (v := (0 : Int32)) (by decide) ?_
  exact zm_zreturn dX7_isRow_79 rfl (by decide) k
theorem gX7_needsOf_0 {d : Nat} {Q : Value → zm_S → Prop} {w : zm_S} {a1 : Int32} {a2 : Int32} (kt : ¬ a2 = (1 : Int32) → zm_T zc_H d mX7_needsOf Q 20 [(0, .ref 0), (1, .int a1)] [] w) (kf : a2 = (1 : Int32) → zm_T zc_H d mX7_needsOf Q 5 [(0, .ref 0), (1, .int a1)] [] w) : zm_T zc_H d mX7_needsOf Q 0 [(0, .ref 0), (1, .int a1), (2, .int a2)] [] w := by
  refine zm_iload_n (x := a2) 2 dX7_needsOf_0 rfl rfl ?_
  refine zm_iconst dX7_needsOf_1 (v := (1 : Int32)) (by decide) ?_
  refine zm_icmp_ne 20 dX7_needsOf_2 (by decide) (fun h => ?_) (fun h => ?_)
  · refine zm_sub [0, 1] rfl ?_
    exact kt h
  · refine zm_sub [0, 1] rfl ?_
    exact kf h
theorem gX7_needsOf_5 {d : Nat} {Q : Value → zm_S → Prop} {w : zm_S} {a1 : Int32} {Q' : Value → zm_S → Prop} (hi15 : vp_in (2 : Int32) 4) (hC : zm_C zc_H d mX0_foundFor [.ref 2, .int a1, .int (w.1 1 ((2 : Int32)).toNatClampNeg)] w Q') (k : ∀ (r : Int32) (u : zm_S), Q' (.int r) u → zm_T zc_H (d + 1) mX7_needsOf Q 19 [] [.int r] u) : zm_T zc_H (d + 1) mX7_needsOf Q 5 [(0, .ref 0), (1, .int a1)] [] w := by
  refine zm_aload_n (x := 0) 0 dX7_needsOf_5 rfl rfl ?_
  refine zm_getf (v := .ref 2) (j := 1) dX7_needsOf_6 clX7 flX7_16 (Nat.le_of_ble_eq_true rfl) zc_H0 rfl rfl ?_
  refine zm_iload_n (x := a1) 1 dX7_needsOf_9 rfl rfl ?_
  refine zm_aload_n (x := 0) 0 dX7_needsOf_10 rfl rfl ?_
  refine zm_getf (v := .ref 1) (j := 0) dX7_needsOf_11 clX7 flX7_9 (Nat.le_of_ble_eq_true rfl) zc_H0 rfl rfl ?_
  refine zm_iconst dX7_needsOf_14 (v := (2 : Int32)) (by decide) ?_
  refine zm_iald dX7_needsOf_15 zc_H1 hi15 ?_
  refine zm_callVi (as := [.int a1, .int (w.1 1 ((2 : Int32)).toNatClampNeg)]) (rest := []) dX7_needsOf_16 rfl mtX0_foundFor lkX7_366 zc_H2 (C := RX0) rfl rfl rfl (Nat.le_of_ble_eq_true rfl) hC rfl (fun r u hq => ?_)
  refine zm_sub [] rfl ?_
  exact k r u hq
theorem gX7_needsOf_19 {d : Nat} {Q : Value → zm_S → Prop} {w : zm_S} {s0 : Int32} (k : Q (.int s0) w) : zm_T zc_H d mX7_needsOf Q 19 [] [.int s0] w := by
  exact zm_ireturn dX7_needsOf_19 rfl k
theorem gX7_needsOf_20 {d : Nat} {Q : Value → zm_S → Prop} {w : zm_S} {a1 : Int32} (hi28 : vp_in a1 7) (k : Q (.int ((w.1 13 (a1).toNatClampNeg) &&& (w.1 2 10))) w) : zm_T zc_H d mX7_needsOf Q 20 [(0, .ref 0), (1, .int a1)] [] w := by
  refine zm_aload_n (x := 0) 0 dX7_needsOf_20 rfl rfl ?_
  refine zm_getf (v := .ref 11) (j := 2) dX7_needsOf_21 clX7 flX7_23 (Nat.le_of_ble_eq_true rfl) zc_H0 rfl rfl ?_
  refine zm_getf (v := .ref 13) (j := 1) dX7_needsOf_24 clX2 flX7_369 (Nat.le_of_ble_eq_true rfl) zc_H11 rfl rfl ?_
  refine zm_iload_n (x := a1) 1 dX7_needsOf_27 rfl rfl ?_
  refine zm_iald dX7_needsOf_28 zc_H13 hi28 ?_
  refine zm_aload_n (x := 0) 0 dX7_needsOf_29 rfl rfl ?_
  refine zm_getf (v := .ref 2) (j := 1) dX7_needsOf_30 clX7 flX7_16 (Nat.le_of_ble_eq_true rfl) zc_H0 rfl rfl ?_
  refine zm_getf (v := .int (w.1 2 10)) (j := 10) dX7_needsOf_33 clX0 flX7_365 (Nat.le_of_ble_eq_true rfl) zc_H2 rfl rfl ?_
  refine zm_iand dX7_needsOf_36 ?_
  exact zm_ireturn dX7_needsOf_37 rfl k
theorem gX7_findStates_0 {d : Nat} {Q : Value → zm_S → Prop} {w : zm_S} (kt : (w.1 23 4) = 0 → zm_T zc_H d mX7_findStates Q 11 [(0, .ref 0)] [] w) (kf : ¬ (w.1 23 4) = 0 → zm_T zc_H d mX7_findStates Q 10 [] [] w) : zm_T zc_H d mX7_findStates Q 0 [(0, .ref 0)] [] w := by
  refine zm_aload_n (x := 0) 0 dX7_findStates_0 rfl rfl ?_
  refine zm_getf (v := .ref 23) (j := 4) dX7_findStates_1 clX7 flX7_37 (Nat.le_of_ble_eq_true rfl) zc_H0 rfl rfl ?_
  refine zm_getf (v := .int (w.1 23 4)) (j := 4) dX7_findStates_4 clX6 flX7_80 (Nat.le_of_ble_eq_true rfl) zc_H23 rfl rfl ?_
  refine zm_if_eq 11 dX7_findStates_7 (by decide) (fun h => ?_) (fun h => ?_)
  · exact kt h
  · refine zm_sub [] rfl ?_
    exact kf h
theorem gX7_findStates_10 {d : Nat} {Q : Value → zm_S → Prop} {w : zm_S} (k : Q .null w) : zm_T zc_H d mX7_findStates Q 10 [] [] w := by
  exact zm_return dX7_findStates_10 rfl k
theorem gX7_findStates_11 {d : Nat} {Q : Value → zm_S → Prop} {w : zm_S} {Q' : Value → zm_S → Prop} (hC : zm_C zc_H d mX6_begin [.ref 23, .int (w.1 2 9)] w Q') (k : ∀ (u : zm_S), Q' .null u → zm_T zc_H (d + 1) mX7_findStates Q 25 [(0, .ref 0)] [] u) : zm_T zc_H (d + 1) mX7_findStates Q 11 [(0, .ref 0)] [] w := by
  refine zm_aload_n (x := 0) 0 dX7_findStates_11 rfl rfl ?_
  refine zm_getf (v := .ref 23) (j := 4) dX7_findStates_12 clX7 flX7_37 (Nat.le_of_ble_eq_true rfl) zc_H0 rfl rfl ?_
  refine zm_aload_n (x := 0) 0 dX7_findStates_15 rfl rfl ?_
  refine zm_getf (v := .ref 2) (j := 1) dX7_findStates_16 clX7 flX7_16 (Nat.le_of_ble_eq_true rfl) zc_H0 rfl rfl ?_
  refine zm_getf (v := .int (w.1 2 9)) (j := 9) dX7_findStates_19 clX0 flX7_183 (Nat.le_of_ble_eq_true rfl) zc_H2 rfl rfl ?_
  refine zm_callVv (as := [.int (w.1 2 9)]) (rest := []) dX7_findStates_22 rfl mtX6_begin lkX7_372 zc_H23 (C := RX6) rfl rfl rfl (Nat.le_of_ble_eq_true rfl) hC rfl (fun u hq => ?_)
  exact k u hq
theorem gX7_findStates_25 {d : Nat} {Q : Value → zm_S → Prop} {w : zm_S} (k : zm_T zc_H d mX7_findStates Q 27 [(0, .ref 0), (1, .int (0 : Int32))] [] w) : zm_T zc_H d mX7_findStates Q 25 [(0, .ref 0)] [] w := by
  refine zm_iconst dX7_findStates_25 (v := (0 : Int32)) (by decide) ?_
  refine zm_istore_n dX7_findStates_26 rfl (Nat.le_of_ble_eq_true rfl) (ls' := [(1, .int (0 : Int32)), (0, .ref 0)]) rfl ?_
  refine zm_sub [1, 0] rfl ?_
  exact k
theorem gX7_findStates_27 {d : Nat} {Q : Value → zm_S → Prop} {w : zm_S} {a1 : Int32} (kt : (w.1 2 9) ≤ a1 → zm_T zc_H d mX7_findStates Q 64 [(0, .ref 0)] [] w) (kf : ¬ (w.1 2 9) ≤ a1 → zm_T zc_H d mX7_findStates Q 38 [(0, .ref 0), (1, .int a1)] [] w) : zm_T zc_H d mX7_findStates Q 27 [(0, .ref 0), (1, .int a1)] [] w := by
  refine zm_iload_n (x := a1) 1 dX7_findStates_27 rfl rfl ?_
  refine zm_aload_n (x := 0) 0 dX7_findStates_28 rfl rfl ?_
  refine zm_getf (v := .ref 2) (j := 1) dX7_findStates_29 clX7 flX7_16 (Nat.le_of_ble_eq_true rfl) zc_H0 rfl rfl ?_
  refine zm_getf (v := .int (w.1 2 9)) (j := 9) dX7_findStates_32 clX0 flX7_183 (Nat.le_of_ble_eq_true rfl) zc_H2 rfl rfl ?_
  refine zm_icmp_ge 64 dX7_findStates_35 (by decide) (fun h => ?_) (fun h => ?_)
  · refine zm_sub [0] rfl ?_
    exact kt h
  · exact kf h
theorem gX7_findStates_38 {d : Nat} {Q : Value → zm_S → Prop} {w : zm_S} {a1 : Int32} {Q' : Value → zm_S → Prop} (hi53 : vp_in (3 : Int32) 4) (hC : zm_C zc_H d mX7_needsOf [.ref 0, .int a1, .int (w.1 1 ((3 : Int32)).toNatClampNeg)] w Q') (k : ∀ (r : Int32) (u : zm_S), Q' (.int r) u → zm_T zc_H (d + 1) mX7_findStates Q 57 [(0, .ref 0), (1, .int a1)] [.int r, .int a1, .ref 24] u) : zm_T zc_H (d + 1) mX7_findStates Q 38 [(0, .ref 0), (1, .int a1)] [] w := by
  refine zm_aload_n (x := 0) 0 dX7_findStates_38 rfl rfl ?_
  refine zm_getf (v := .ref 23) (j := 4) dX7_findStates_39 clX7 flX7_37 (Nat.le_of_ble_eq_true rfl) zc_H0 rfl rfl ?_
  refine zm_getf (v := .ref 24) (j := 0) dX7_findStates_42 clX6 flX7_374 (Nat.le_of_ble_eq_true rfl) zc_H23 rfl rfl ?_
  refine zm_iload_n (x := a1) 1 dX7_findStates_45 rfl rfl ?_
  refine zm_aload_n (x := 0) 0 dX7_findStates_46 rfl rfl ?_
  refine zm_iload_n (x := a1) 1 dX7_findStates_47 rfl rfl ?_
  refine zm_aload_n (x := 0) 0 dX7_findStates_48 rfl rfl ?_
  refine zm_getf (v := .ref 1) (j := 0) dX7_findStates_49 clX7 flX7_9 (Nat.le_of_ble_eq_true rfl) zc_H0 rfl rfl ?_
  refine zm_iconst dX7_findStates_52 (v := (3 : Int32)) (by decide) ?_
  refine zm_iald dX7_findStates_53 zc_H1 hi53 ?_
  refine zm_callVi (as := [.int a1, .int (w.1 1 ((3 : Int32)).toNatClampNeg)]) (rest := [.int a1, .ref 24]) dX7_findStates_54 rfl mtX7_needsOf lkX7_135 zc_H0 (C := RX7) rfl rfl rfl (Nat.le_of_ble_eq_true rfl) hC rfl (fun r u hq => ?_)
  exact k r u hq
theorem gX7_findStates_57 {d : Nat} {Q : Value → zm_S → Prop} {w : zm_S} {a1 : Int32} {s0 : Int32} {s1 : Int32} (hi57 : vp_in s1 7) (k : zm_T zc_H d mX7_findStates Q 27 [(0, .ref 0), (1, .int (a1 + (1 : Int32)))] [] (zm_pi w 24 (s1).toNatClampNeg s0)) : zm_T zc_H d mX7_findStates Q 57 [(0, .ref 0), (1, .int a1)] [.int s0, .int s1, .ref 24] w := by
  refine zm_iast dX7_findStates_57 zc_H24 hi57 ?_
  refine zm_iinc 1 dX7_findStates_58 (x := a1) (v := (a1 + (1 : Int32))) rfl rfl (Nat.le_of_ble_eq_true rfl) (ls' := [(1, .int (a1 + (1 : Int32))), (0, .ref 0)]) rfl ?_
  refine zm_goto 27 dX7_findStates_61 (by decide) ?_
  refine zm_sub [1, 0] rfl ?_
  exact k
theorem gX7_findStates_64 {d : Nat} {Q : Value → zm_S → Prop} {w : zm_S} {Q' : Value → zm_S → Prop} (hC : zm_C zc_H d mX6_gather [.ref 23] w Q') (k : ∀ (u : zm_S), Q' .null u → zm_T zc_H (d + 1) mX7_findStates Q 71 [] [] u) : zm_T zc_H (d + 1) mX7_findStates Q 64 [(0, .ref 0)] [] w := by
  refine zm_aload_n (x := 0) 0 dX7_findStates_64 rfl rfl ?_
  refine zm_getf (v := .ref 23) (j := 4) dX7_findStates_65 clX7 flX7_37 (Nat.le_of_ble_eq_true rfl) zc_H0 rfl rfl ?_
  refine zm_callVv (as := []) (rest := []) dX7_findStates_68 rfl mtX6_gather lkX7_375 zc_H23 (C := RX6) rfl rfl rfl (Nat.le_of_ble_eq_true rfl) hC rfl (fun u hq => ?_)
  refine zm_sub [] rfl ?_
  exact k u hq
theorem gX7_findStates_71 {d : Nat} {Q : Value → zm_S → Prop} {w : zm_S} (k : Q .null w) : zm_T zc_H d mX7_findStates Q 71 [] [] w := by
  exact zm_return dX7_findStates_71 rfl k
theorem gX7_stateOf_0 {d : Nat} {Q : Value → zm_S → Prop} {w : zm_S} {a1 : Int32} (k : zm_T zc_H d mX7_stateOf Q 8 [(0, .ref 0), (1, .int a1), (2, .int (0 : Int32)), (3, .int (8 : Int32)), (4, .int (0 : Int32))] [] w) : zm_T zc_H d mX7_stateOf Q 0 [(0, .ref 0), (1, .int a1)] [] w := by
  refine zm_iconst dX7_stateOf_0 (v := (0 : Int32)) (by decide) ?_
  refine zm_istore_n dX7_stateOf_1 rfl (Nat.le_of_ble_eq_true rfl) (ls' := [(2, .int (0 : Int32)), (0, .ref 0), (1, .int a1)]) rfl ?_
  refine zm_bipush dX7_stateOf_2 (v := (8 : Int32)) (by decide) ?_
  refine zm_istore_n dX7_stateOf_4 rfl (Nat.le_of_ble_eq_true rfl) (ls' := [(3, .int (8 : Int32)), (2, .int (0 : Int32)), (0, .ref 0), (1, .int a1)]) rfl ?_
  refine zm_iconst dX7_stateOf_5 (v := (0 : Int32)) (by decide) ?_
  refine zm_istore dX7_stateOf_6 (Nat.le_of_ble_eq_true rfl) (ls' := [(4, .int (0 : Int32)), (3, .int (8 : Int32)), (2, .int (0 : Int32)), (0, .ref 0), (1, .int a1)]) rfl ?_
  refine zm_sub [3, 4, 2, 1, 0] rfl ?_
  exact k
theorem gX7_stateOf_8 {d : Nat} {Q : Value → zm_S → Prop} {w : zm_S} {a1 : Int32} {a2 : Int32} {a3 : Int32} {a4 : Int32} (kt : (w.1 23 7) ≤ a4 → zm_T zc_H d mX7_stateOf Q 66 [(2, .int a2)] [] w) (kf : ¬ (w.1 23 7) ≤ a4 → zm_T zc_H d mX7_stateOf Q 20 [(0, .ref 0), (1, .int a1), (2, .int a2), (3, .int a3), (4, .int a4)] [] w) : zm_T zc_H d mX7_stateOf Q 8 [(0, .ref 0), (1, .int a1), (2, .int a2), (3, .int a3), (4, .int a4)] [] w := by
  refine zm_iload (x := a4) 4 dX7_stateOf_8 rfl ?_
  refine zm_aload_n (x := 0) 0 dX7_stateOf_10 rfl rfl ?_
  refine zm_getf (v := .ref 23) (j := 4) dX7_stateOf_11 clX7 flX7_37 (Nat.le_of_ble_eq_true rfl) zc_H0 rfl rfl ?_
  refine zm_getf (v := .int (w.1 23 7)) (j := 7) dX7_stateOf_14 clX6 flX7_189 (Nat.le_of_ble_eq_true rfl) zc_H23 rfl rfl ?_
  refine zm_icmp_ge 66 dX7_stateOf_17 (by decide) (fun h => ?_) (fun h => ?_)
  · refine zm_sub [2] rfl ?_
    exact kt h
  · exact kf h
theorem gX7_stateOf_20 {d : Nat} {Q : Value → zm_S → Prop} {w : zm_S} {a1 : Int32} {a2 : Int32} {a3 : Int32} {a4 : Int32} {Q' : Value → zm_S → Prop} (hi34 : vp_in a4 128) (hC : zm_C zc_H d mX0_errorsWith [.ref 2, .int a1, .int (w.1 26 (a4).toNatClampNeg)] w Q') (k : ∀ (r : Int32) (u : zm_S), Q' (.int r) u → zm_T zc_H (d + 1) mX7_stateOf Q 38 [(0, .ref 0), (1, .int a1), (2, .int a2), (3, .int a3), (4, .int a4)] [.int r] u) : zm_T zc_H (d + 1) mX7_stateOf Q 20 [(0, .ref 0), (1, .int a1), (2, .int a2), (3, .int a3), (4, .int a4)] [] w := by
  refine zm_aload_n (x := 0) 0 dX7_stateOf_20 rfl rfl ?_
  refine zm_getf (v := .ref 2) (j := 1) dX7_stateOf_21 clX7 flX7_16 (Nat.le_of_ble_eq_true rfl) zc_H0 rfl rfl ?_
  refine zm_iload_n (x := a1) 1 dX7_stateOf_24 rfl rfl ?_
  refine zm_aload_n (x := 0) 0 dX7_stateOf_25 rfl rfl ?_
  refine zm_getf (v := .ref 23) (j := 4) dX7_stateOf_26 clX7 flX7_37 (Nat.le_of_ble_eq_true rfl) zc_H0 rfl rfl ?_
  refine zm_getf (v := .ref 26) (j := 2) dX7_stateOf_29 clX6 flX7_190 (Nat.le_of_ble_eq_true rfl) zc_H23 rfl rfl ?_
  refine zm_iload (x := a4) 4 dX7_stateOf_32 rfl ?_
  refine zm_iald dX7_stateOf_34 zc_H26 hi34 ?_
  refine zm_callVi (as := [.int a1, .int (w.1 26 (a4).toNatClampNeg)]) (rest := []) dX7_stateOf_35 rfl mtX0_errorsWith lkX7_138 zc_H2 (C := RX0) rfl rfl rfl (Nat.le_of_ble_eq_true rfl) hC rfl (fun r u hq => ?_)
  exact k r u hq
theorem gX7_stateOf_38 {d : Nat} {Q : Value → zm_S → Prop} {w : zm_S} {a1 : Int32} {a2 : Int32} {a3 : Int32} {a4 : Int32} {s0 : Int32} (kt : a3 ≤ s0 → zm_T zc_H d mX7_stateOf Q 60 [(0, .ref 0), (1, .int a1), (2, .int a2), (3, .int a3), (4, .int a4)] [] w) (kf : ¬ a3 ≤ s0 → zm_T zc_H d mX7_stateOf Q 46 [(0, .ref 0), (1, .int a1), (4, .int a4), (5, .int s0)] [] w) : zm_T zc_H d mX7_stateOf Q 38 [(0, .ref 0), (1, .int a1), (2, .int a2), (3, .int a3), (4, .int a4)] [.int s0] w := by
  refine zm_istore dX7_stateOf_38 (Nat.le_of_ble_eq_true rfl) (ls' := [(5, .int s0), (0, .ref 0), (1, .int a1), (2, .int a2), (3, .int a3), (4, .int a4)]) rfl ?_
  refine zm_iload (x := s0) 0 dX7_stateOf_40 rfl ?_
  refine zm_iload_n (x := a3) 4 dX7_stateOf_42 rfl rfl ?_
  refine zm_icmp_ge 60 dX7_stateOf_43 (by decide) (fun h => ?_) (fun h => ?_)
  · refine zm_sub [1, 2, 3, 4, 5] rfl ?_
    exact kt h
  · refine zm_sub [1, 2, 5, 0] rfl ?_
    exact kf h
theorem gX7_stateOf_46 {d : Nat} {Q : Value → zm_S → Prop} {w : zm_S} {a1 : Int32} {a4 : Int32} {a5 : Int32} (hi58 : vp_in a4 128) (k : zm_T zc_H d mX7_stateOf Q 60 [(0, .ref 0), (1, .int a1), (2, .int (w.1 26 (a4).toNatClampNeg)), (3, .int a5), (4, .int a4)] [] w) : zm_T zc_H d mX7_stateOf Q 46 [(0, .ref 0), (1, .int a1), (4, .int a4), (5, .int a5)] [] w := by
  refine zm_iload (x := a5) 3 dX7_stateOf_46 rfl ?_
  refine zm_istore_n dX7_stateOf_48 rfl (Nat.le_of_ble_eq_true rfl) (ls' := [(3, .int a5), (0, .ref 0), (1, .int a1), (4, .int a4), (5, .int a5)]) rfl ?_
  refine zm_aload_n (x := 0) 1 dX7_stateOf_49 rfl rfl ?_
  refine zm_getf (v := .ref 23) (j := 4) dX7_stateOf_50 clX7 flX7_37 (Nat.le_of_ble_eq_true rfl) zc_H0 rfl rfl ?_
  refine zm_getf (v := .ref 26) (j := 2) dX7_stateOf_53 clX6 flX7_190 (Nat.le_of_ble_eq_true rfl) zc_H23 rfl rfl ?_
  refine zm_iload (x := a4) 3 dX7_stateOf_56 rfl ?_
  refine zm_iald dX7_stateOf_58 zc_H26 hi58 ?_
  refine zm_istore_n dX7_stateOf_59 rfl (Nat.le_of_ble_eq_true rfl) (ls' := [(2, .int (w.1 26 (a4).toNatClampNeg)), (3, .int a5), (0, .ref 0), (1, .int a1), (4, .int a4), (5, .int a5)]) rfl ?_
  refine zm_sub [2, 3, 0, 1, 4] rfl ?_
  exact k
theorem gX7_stateOf_60 {d : Nat} {Q : Value → zm_S → Prop} {w : zm_S} {a1 : Int32} {a2 : Int32} {a3 : Int32} {a4 : Int32} (k : zm_T zc_H d mX7_stateOf Q 8 [(0, .ref 0), (1, .int a1), (2, .int a2), (3, .int a3), (4, .int (a4 + (1 : Int32)))] [] w) : zm_T zc_H d mX7_stateOf Q 60 [(0, .ref 0), (1, .int a1), (2, .int a2), (3, .int a3), (4, .int a4)] [] w := by
  refine zm_iinc 4 dX7_stateOf_60 (x := a4) (v := (a4 + (1 : Int32))) rfl rfl (Nat.le_of_ble_eq_true rfl) (ls' := [(4, .int (a4 + (1 : Int32))), (0, .ref 0), (1, .int a1), (2, .int a2), (3, .int a3)]) rfl ?_
  refine zm_goto 8 dX7_stateOf_63 (by decide) ?_
  refine zm_sub [1, 2, 3, 4, 0] rfl ?_
  exact k
theorem gX7_stateOf_66 {d : Nat} {Q : Value → zm_S → Prop} {w : zm_S} {a2 : Int32} (k : Q (.int a2) w) : zm_T zc_H d mX7_stateOf Q 66 [(2, .int a2)] [] w := by
  refine zm_iload_n (x := a2) 0 dX7_stateOf_66 rfl rfl ?_
  exact zm_ireturn dX7_stateOf_67 rfl k
theorem gX7_statesWithErrors_0 {d : Nat} {Q : Value → zm_S → Prop} {w : zm_S} {a1 : Int32} {a2 : Int32} (k : zm_T zc_H d mX7_statesWithErrors Q 5 [(0, .ref 0), (1, .int a1), (2, .int a2), (3, .int (0 : Int32)), (4, .int (0 : Int32))] [] w) : zm_T zc_H d mX7_statesWithErrors Q 0 [(0, .ref 0), (1, .int a1), (2, .int a2)] [] w := by
  refine zm_iconst dX7_statesWithErrors_0 (v := (0 : Int32)) (by decide) ?_
  refine zm_istore_n dX7_statesWithErrors_1 rfl (Nat.le_of_ble_eq_true rfl) (ls' := [(3, .int (0 : Int32)), (0, .ref 0), (1, .int a1), (2, .int a2)]) rfl ?_
  refine zm_iconst dX7_statesWithErrors_2 (v := (0 : Int32)) (by decide) ?_
  refine zm_istore dX7_statesWithErrors_3 (Nat.le_of_ble_eq_true rfl) (ls' := [(4, .int (0 : Int32)), (3, .int (0 : Int32)), (0, .ref 0), (1, .int a1), (2, .int a2)]) rfl ?_
  refine zm_sub [2, 3, 4, 1, 0] rfl ?_
  exact k
theorem gX7_statesWithErrors_5 {d : Nat} {Q : Value → zm_S → Prop} {w : zm_S} {a1 : Int32} {a2 : Int32} {a3 : Int32} {a4 : Int32} (kt : (w.1 23 7) ≤ a4 → zm_T zc_H d mX7_statesWithErrors Q 48 [(3, .int a3)] [] w) (kf : ¬ (w.1 23 7) ≤ a4 → zm_T zc_H d mX7_statesWithErrors Q 17 [(0, .ref 0), (1, .int a1), (2, .int a2), (3, .int a3), (4, .int a4)] [] w) : zm_T zc_H d mX7_statesWithErrors Q 5 [(0, .ref 0), (1, .int a1), (2, .int a2), (3, .int a3), (4, .int a4)] [] w := by
  refine zm_iload (x := a4) 4 dX7_statesWithErrors_5 rfl ?_
  refine zm_aload_n (x := 0) 0 dX7_statesWithErrors_7 rfl rfl ?_
  refine zm_getf (v := .ref 23) (j := 4) dX7_statesWithErrors_8 clX7 flX7_37 (Nat.le_of_ble_eq_true rfl) zc_H0 rfl rfl ?_
  refine zm_getf (v := .int (w.1 23 7)) (j := 7) dX7_statesWithErrors_11 clX6 flX7_189 (Nat.le_of_ble_eq_true rfl) zc_H23 rfl rfl ?_
  refine zm_icmp_ge 48 dX7_statesWithErrors_14 (by decide) (fun h => ?_) (fun h => ?_)
  · refine zm_sub [3] rfl ?_
    exact kt h
  · exact kf h
theorem gX7_statesWithErrors_17 {d : Nat} {Q : Value → zm_S → Prop} {w : zm_S} {a1 : Int32} {a2 : Int32} {a3 : Int32} {a4 : Int32} {Q' : Value → zm_S → Prop} (hi31 : vp_in a4 128) (hC : zm_C zc_H d mX0_errorsWith [.ref 2, .int a1, .int (w.1 26 (a4).toNatClampNeg)] w Q') (k : ∀ (r : Int32) (u : zm_S), Q' (.int r) u → zm_T zc_H (d + 1) mX7_statesWithErrors Q 35 [(0, .ref 0), (1, .int a1), (2, .int a2), (3, .int a3), (4, .int a4)] [.int r] u) : zm_T zc_H (d + 1) mX7_statesWithErrors Q 17 [(0, .ref 0), (1, .int a1), (2, .int a2), (3, .int a3), (4, .int a4)] [] w := by
  refine zm_aload_n (x := 0) 0 dX7_statesWithErrors_17 rfl rfl ?_
  refine zm_getf (v := .ref 2) (j := 1) dX7_statesWithErrors_18 clX7 flX7_16 (Nat.le_of_ble_eq_true rfl) zc_H0 rfl rfl ?_
  refine zm_iload_n (x := a1) 1 dX7_statesWithErrors_21 rfl rfl ?_
  refine zm_aload_n (x := 0) 0 dX7_statesWithErrors_22 rfl rfl ?_
  refine zm_getf (v := .ref 23) (j := 4) dX7_statesWithErrors_23 clX7 flX7_37 (Nat.le_of_ble_eq_true rfl) zc_H0 rfl rfl ?_
  refine zm_getf (v := .ref 26) (j := 2) dX7_statesWithErrors_26 clX6 flX7_190 (Nat.le_of_ble_eq_true rfl) zc_H23 rfl rfl ?_
  refine zm_iload (x := a4) 4 dX7_statesWithErrors_29 rfl ?_
  refine zm_iald dX7_statesWithErrors_31 zc_H26 hi31 ?_
  refine zm_callVi (as := [.int a1, .int (w.1 26 (a4).toNatClampNeg)]) (rest := []) dX7_statesWithErrors_32 rfl mtX0_errorsWith lkX7_138 zc_H2 (C := RX0) rfl rfl rfl (Nat.le_of_ble_eq_true rfl) hC rfl (fun r u hq => ?_)
  exact k r u hq
theorem gX7_statesWithErrors_35 {d : Nat} {Q : Value → zm_S → Prop} {w : zm_S} {a1 : Int32} {a2 : Int32} {a3 : Int32} {a4 : Int32} {s0 : Int32} (kt : ¬ s0 = a2 → zm_T zc_H d mX7_statesWithErrors Q 42 [(0, .ref 0), (1, .int a1), (2, .int a2), (3, .int a3), (4, .int a4)] [] w) (kf : s0 = a2 → zm_T zc_H d mX7_statesWithErrors Q 39 [(0, .ref 0), (1, .int a1), (2, .int a2), (3, .int a3), (4, .int a4)] [] w) : zm_T zc_H d mX7_statesWithErrors Q 35 [(0, .ref 0), (1, .int a1), (2, .int a2), (3, .int a3), (4, .int a4)] [.int s0] w := by
  refine zm_iload_n (x := a2) 2 dX7_statesWithErrors_35 rfl rfl ?_
  refine zm_icmp_ne 42 dX7_statesWithErrors_36 (by decide) (fun h => ?_) (fun h => ?_)
  · exact kt h
  · exact kf h
theorem gX7_statesWithErrors_39 {d : Nat} {Q : Value → zm_S → Prop} {w : zm_S} {a1 : Int32} {a2 : Int32} {a3 : Int32} {a4 : Int32} (k : zm_T zc_H d mX7_statesWithErrors Q 42 [(0, .ref 0), (1, .int a1), (2, .int a2), (3, .int (a3 + (1 : Int32))), (4, .int a4)] [] w) : zm_T zc_H d mX7_statesWithErrors Q 39 [(0, .ref 0), (1, .int a1), (2, .int a2), (3, .int a3), (4, .int a4)] [] w := by
  refine zm_iinc 3 dX7_statesWithErrors_39 (x := a3) (v := (a3 + (1 : Int32))) rfl rfl (Nat.le_of_ble_eq_true rfl) (ls' := [(3, .int (a3 + (1 : Int32))), (0, .ref 0), (1, .int a1), (2, .int a2), (4, .int a4)]) rfl ?_
  refine zm_sub [1, 2, 3, 0, 4] rfl ?_
  exact k
theorem gX7_statesWithErrors_42 {d : Nat} {Q : Value → zm_S → Prop} {w : zm_S} {a1 : Int32} {a2 : Int32} {a3 : Int32} {a4 : Int32} (k : zm_T zc_H d mX7_statesWithErrors Q 5 [(0, .ref 0), (1, .int a1), (2, .int a2), (3, .int a3), (4, .int (a4 + (1 : Int32)))] [] w) : zm_T zc_H d mX7_statesWithErrors Q 42 [(0, .ref 0), (1, .int a1), (2, .int a2), (3, .int a3), (4, .int a4)] [] w := by
  refine zm_iinc 4 dX7_statesWithErrors_42 (x := a4) (v := (a4 + (1 : Int32))) rfl rfl (Nat.le_of_ble_eq_true rfl) (ls' := [(4, .int (a4 + (1 : Int32))), (0, .ref 0), (1, .int a1), (2, .int a2), (3, .int a3)]) rfl ?_
  refine zm_goto 5 dX7_statesWithErrors_45 (by decide) ?_
  refine zm_sub [1, 2, 3, 4, 0] rfl ?_
  exact k
theorem gX7_statesWithErrors_48 {d : Nat} {Q : Value → zm_S → Prop} {w : zm_S} {a3 : Int32} (k : Q (.int a3) w) : zm_T zc_H d mX7_statesWithErrors Q 48 [(3, .int a3)] [] w := by
  refine zm_iload_n (x := a3) 0 dX7_statesWithErrors_48 rfl rfl ?_
  exact zm_ireturn dX7_statesWithErrors_49 rfl k
theorem gX7_lowestTerm_0 {d : Nat} {Q : Value → zm_S → Prop} {w : zm_S} {a0 : Int64} {a2 : Int64} {a4 : Int32} {Q' : Value → zm_S → Prop} (hC : zm_C zc_H d mX7_commonDivisor [.long a0, .long a2] w Q') (k : ∀ (r : Int64) (u : zm_S), Q' (.long r) u → zm_T zc_H (d + 1) mX7_lowestTerm Q 5 [(0, .long a0), (2, .long a2), (4, .int a4)] [.long r] u) : zm_T zc_H (d + 1) mX7_lowestTerm Q 0 [(0, .long a0), (2, .long a2), (4, .int a4)] [] w := by
  refine zm_lload_n (x := a0) 0 dX7_lowestTerm_0 rfl rfl ?_
  refine zm_lload_n (x := a2) 1 dX7_lowestTerm_1 rfl rfl ?_
  refine zm_callSl (as := [.long a0, .long a2]) (rest := []) dX7_lowestTerm_2 rfl mtX7_commonDivisor lkX7_378 rfl (Nat.le_of_ble_eq_true rfl) hC rfl (fun r u hq => ?_)
  exact k r u hq
theorem gX7_lowestTerm_5 {d : Nat} {Q : Value → zm_S → Prop} {w : zm_S} {a0 : Int64} {a2 : Int64} {a4 : Int32} {s0 : Int64} (kt : ¬ a4 = 0 → zm_T zc_H d mX7_lowestTerm Q 16 [(2, .long a2), (5, .long s0)] [] w) (kf : a4 = 0 → zm_T zc_H d mX7_lowestTerm Q 12 [(0, .long a0), (5, .long s0)] [] w) : zm_T zc_H d mX7_lowestTerm Q 5 [(0, .long a0), (2, .long a2), (4, .int a4)] [.long s0] w := by
  refine zm_lstore dX7_lowestTerm_5 (Nat.le_of_ble_eq_true rfl) (ls' := [(5, .long s0), (0, .long a0), (2, .long a2), (4, .int a4)]) rfl ?_
  refine zm_iload (x := a4) 3 dX7_lowestTerm_7 rfl ?_
  refine zm_if_ne 16 dX7_lowestTerm_9 (by decide) (fun h => ?_) (fun h => ?_)
  · refine zm_sub [2, 0] rfl ?_
    exact kt h
  · refine zm_sub [1, 0] rfl ?_
    exact kf h
theorem gX7_lowestTerm_12 {d : Nat} {Q : Value → zm_S → Prop} {w : zm_S} {a0 : Int64} {a5 : Int64} (k : zm_T zc_H d mX7_lowestTerm Q 17 [(5, .long a5)] [.long a0] w) : zm_T zc_H d mX7_lowestTerm Q 12 [(0, .long a0), (5, .long a5)] [] w := by
  refine zm_lload_n (x := a0) 0 dX7_lowestTerm_12 rfl rfl ?_
  refine zm_goto 17 dX7_lowestTerm_13 (by decide) ?_
  refine zm_sub [1] rfl ?_
  exact k
theorem gX7_lowestTerm_16 {d : Nat} {Q : Value → zm_S → Prop} {w : zm_S} {a2 : Int64} {a5 : Int64} (k : zm_T zc_H d mX7_lowestTerm Q 17 [(5, .long a5)] [.long a2] w) : zm_T zc_H d mX7_lowestTerm Q 16 [(2, .long a2), (5, .long a5)] [] w := by
  refine zm_lload_n (x := a2) 0 dX7_lowestTerm_16 rfl rfl ?_
  refine zm_sub [1] rfl ?_
  exact k
theorem gX7_lowestTerm_17 {d : Nat} {Q : Value → zm_S → Prop} {w : zm_S} {a5 : Int64} {s0 : Int64} (kt : (lg_cmp a5 (0 : Int64)) ≤ 0 → zm_T zc_H d mX7_lowestTerm Q 34 [(7, .long s0)] [] w) (kf : ¬ (lg_cmp a5 (0 : Int64)) ≤ 0 → zm_T zc_H d mX7_lowestTerm Q 26 [(5, .long a5), (7, .long s0)] [] w) : zm_T zc_H d mX7_lowestTerm Q 17 [(5, .long a5)] [.long s0] w := by
  refine zm_lstore dX7_lowestTerm_17 (Nat.le_of_ble_eq_true rfl) (ls' := [(7, .long s0), (5, .long a5)]) rfl ?_
  refine zm_lload (x := a5) 1 dX7_lowestTerm_19 rfl ?_
  refine zm_lconst dX7_lowestTerm_21 (v := (0 : Int64)) (by decide) ?_
  refine zm_lcmp dX7_lowestTerm_22 ?_
  refine zm_if_le 34 dX7_lowestTerm_23 (by decide) (fun h => ?_) (fun h => ?_)
  · refine zm_sub [0] rfl ?_
    exact kt h
  · refine zm_sub [1, 0] rfl ?_
    exact kf h
theorem gX7_lowestTerm_26 {d : Nat} {Q : Value → zm_S → Prop} {w : zm_S} {a5 : Int64} {a7 : Int64} (hn30 : ¬ a5 = 0) (k : Q (.long (a7 / a5)) w) : zm_T zc_H d mX7_lowestTerm Q 26 [(5, .long a5), (7, .long a7)] [] w := by
  refine zm_lload (x := a7) 1 dX7_lowestTerm_26 rfl ?_
  refine zm_lload (x := a5) 0 dX7_lowestTerm_28 rfl ?_
  refine zm_ldiv dX7_lowestTerm_30 hn30 ?_
  refine zm_goto 36 dX7_lowestTerm_31 (by decide) ?_
  exact zm_lreturn dX7_lowestTerm_36 rfl k
theorem gX7_lowestTerm_34 {d : Nat} {Q : Value → zm_S → Prop} {w : zm_S} {a7 : Int64} (k : Q (.long a7) w) : zm_T zc_H d mX7_lowestTerm Q 34 [(7, .long a7)] [] w := by
  refine zm_lload (x := a7) 0 dX7_lowestTerm_34 rfl ?_
  exact zm_lreturn dX7_lowestTerm_36 rfl k
theorem gX7_commonDivisor_0 {d : Nat} {Q : Value → zm_S → Prop} {w : zm_S} {a0 : Int64} {a2 : Int64} (k : zm_T zc_H d mX7_commonDivisor Q 9 [(4, .long a2), (6, .long a0), (8, .int (0 : Int32))] [] w) : zm_T zc_H d mX7_commonDivisor Q 0 [(0, .long a0), (2, .long a2)] [] w := by
  refine zm_lload_n (x := a2) 1 dX7_commonDivisor_0 rfl rfl ?_
  refine zm_lstore dX7_commonDivisor_1 (Nat.le_of_ble_eq_true rfl) (ls' := [(4, .long a2), (0, .long a0), (2, .long a2)]) rfl ?_
  refine zm_lload_n (x := a0) 1 dX7_commonDivisor_3 rfl rfl ?_
  refine zm_lstore dX7_commonDivisor_4 (Nat.le_of_ble_eq_true rfl) (ls' := [(6, .long a0), (4, .long a2), (0, .long a0), (2, .long a2)]) rfl ?_
  refine zm_iconst dX7_commonDivisor_6 (v := (0 : Int32)) (by decide) ?_
  refine zm_istore dX7_commonDivisor_7 (Nat.le_of_ble_eq_true rfl) (ls' := [(8, .int (0 : Int32)), (6, .long a0), (4, .long a2), (0, .long a0), (2, .long a2)]) rfl ?_
  refine zm_sub [2, 1, 0] rfl ?_
  exact k
theorem gX7_commonDivisor_9 {d : Nat} {Q : Value → zm_S → Prop} {w : zm_S} {a4 : Int64} {a6 : Int64} {a8 : Int32} (kt : (130 : Int32) ≤ a8 → zm_T zc_H d mX7_commonDivisor Q 45 [(4, .long a4)] [] w) (kf : ¬ (130 : Int32) ≤ a8 → zm_T zc_H d mX7_commonDivisor Q 17 [(4, .long a4), (6, .long a6), (8, .int a8)] [] w) : zm_T zc_H d mX7_commonDivisor Q 9 [(4, .long a4), (6, .long a6), (8, .int a8)] [] w := by
  refine zm_iload (x := a8) 2 dX7_commonDivisor_9 rfl ?_
  refine zm_sipush dX7_commonDivisor_11 (v := (130 : Int32)) (by decide) ?_
  refine zm_icmp_ge 45 dX7_commonDivisor_14 (by decide) (fun h => ?_) (fun h => ?_)
  · refine zm_sub [0] rfl ?_
    exact kt h
  · exact kf h
theorem gX7_commonDivisor_17 {d : Nat} {Q : Value → zm_S → Prop} {w : zm_S} {a4 : Int64} {a6 : Int64} {a8 : Int32} (kt : (lg_cmp a6 (0 : Int64)) = 0 → zm_T zc_H d mX7_commonDivisor Q 45 [(4, .long a4)] [] w) (kf : ¬ (lg_cmp a6 (0 : Int64)) = 0 → zm_T zc_H d mX7_commonDivisor Q 24 [(4, .long a4), (6, .long a6), (8, .int a8)] [] w) : zm_T zc_H d mX7_commonDivisor Q 17 [(4, .long a4), (6, .long a6), (8, .int a8)] [] w := by
  refine zm_lload (x := a6) 1 dX7_commonDivisor_17 rfl ?_
  refine zm_lconst dX7_commonDivisor_19 (v := (0 : Int64)) (by decide) ?_
  refine zm_lcmp dX7_commonDivisor_20 ?_
  refine zm_if_eq 45 dX7_commonDivisor_21 (by decide) (fun h => ?_) (fun h => ?_)
  · refine zm_sub [0] rfl ?_
    exact kt h
  · exact kf h
theorem gX7_commonDivisor_24 {d : Nat} {Q : Value → zm_S → Prop} {w : zm_S} {a4 : Int64} {a6 : Int64} {a8 : Int32} (hn28 : ¬ a6 = 0) (k : zm_T zc_H d mX7_commonDivisor Q 9 [(4, .long a6), (6, .long (a4 - a4 / a6 * a6)), (8, .int (a8 + (1 : Int32)))] [] w) : zm_T zc_H d mX7_commonDivisor Q 24 [(4, .long a4), (6, .long a6), (8, .int a8)] [] w := by
  refine zm_lload (x := a4) 0 dX7_commonDivisor_24 rfl ?_
  refine zm_lload (x := a6) 1 dX7_commonDivisor_26 rfl ?_
  refine zm_lrem dX7_commonDivisor_28 hn28 ?_
  refine zm_lstore dX7_commonDivisor_29 (Nat.le_of_ble_eq_true rfl) (ls' := [(9, .long (a4 - a4 / a6 * a6)), (4, .long a4), (6, .long a6), (8, .int a8)]) rfl ?_
  refine zm_lload (x := a6) 2 dX7_commonDivisor_31 rfl ?_
  refine zm_lstore dX7_commonDivisor_33 (Nat.le_of_ble_eq_true rfl) (ls' := [(4, .long a6), (9, .long (a4 - a4 / a6 * a6)), (6, .long a6), (8, .int a8)]) rfl ?_
  refine zm_lload (x := (a4 - a4 / a6 * a6)) 1 dX7_commonDivisor_35 rfl ?_
  refine zm_lstore dX7_commonDivisor_37 (Nat.le_of_ble_eq_true rfl) (ls' := [(6, .long (a4 - a4 / a6 * a6)), (4, .long a6), (9, .long (a4 - a4 / a6 * a6)), (8, .int a8)]) rfl ?_
  refine zm_iinc 3 dX7_commonDivisor_39 (x := a8) (v := (a8 + (1 : Int32))) rfl rfl (Nat.le_of_ble_eq_true rfl) (ls' := [(8, .int (a8 + (1 : Int32))), (6, .long (a4 - a4 / a6 * a6)), (4, .long a6), (9, .long (a4 - a4 / a6 * a6))]) rfl ?_
  refine zm_goto 9 dX7_commonDivisor_42 (by decide) ?_
  refine zm_sub [2, 1, 0] rfl ?_
  exact k
theorem gX7_commonDivisor_45 {d : Nat} {Q : Value → zm_S → Prop} {w : zm_S} {a4 : Int64} (k : Q (.long a4) w) : zm_T zc_H d mX7_commonDivisor Q 45 [(4, .long a4)] [] w := by
  refine zm_lload (x := a4) 0 dX7_commonDivisor_45 rfl ?_
  exact zm_lreturn dX7_commonDivisor_47 rfl k
