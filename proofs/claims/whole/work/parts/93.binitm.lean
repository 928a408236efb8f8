def mX8_init : zm_M := (RX8, yX8_init, cX8_init, 2, none)
set_option maxRecDepth 100000 in
theorem mbX8_init : zb_M mX8_init := ⟨(zm_in 901 rfl rfl), (zm_in 87 rfl rfl), (zm_in 900 rfl rfl), rfl, ⟨by decide +kernel, by decide +kernel, by decide +kernel⟩, rfl, by decide +kernel, rfl⟩
set_option maxRecDepth 100000 in
theorem obX8 : Cond.methodLink RX8 1 Lib.objectInit ∈ zm_tb := (zm_in 902 rfl rfl)
set_option maxRecDepth 100000 in
theorem fiX8_7 : Cond.fieldLink RX8 7 (TX8 0).1 (TX8 0).2.1 (TX8 0).2.2.1 ∈ zm_tb := (zm_in 903 rfl rfl)
set_option maxRecDepth 100000 in
theorem fiX8_13 : Cond.fieldLink RX8 13 (TX8 1).1 (TX8 1).2.1 (TX8 1).2.2.1 ∈ zm_tb := (zm_in 904 rfl rfl)
set_option maxRecDepth 100000 in
theorem fiX8_16 : Cond.fieldLink RX8 16 (TX8 2).1 (TX8 2).2.1 (TX8 2).2.2.1 ∈ zm_tb := (zm_in 905 rfl rfl)
set_option maxRecDepth 100000 in
theorem fiX8_19 : Cond.fieldLink RX8 19 (TX8 3).1 (TX8 3).2.1 (TX8 3).2.2.1 ∈ zm_tb := (zm_in 906 rfl rfl)
set_option maxRecDepth 100000 in
theorem fiX8_22 : Cond.fieldLink RX8 22 (TX8 5).1 (TX8 5).2.1 (TX8 5).2.2.1 ∈ zm_tb := (zm_in 908 rfl rfl)
set_option maxRecDepth 100000 in
theorem fiX8_25 : Cond.fieldLink RX8 25 (TX8 7).1 (TX8 7).2.1 (TX8 7).2.2.1 ∈ zm_tb := (zm_in 910 rfl rfl)
set_option maxRecDepth 100000 in
theorem fiX8_28 : Cond.fieldLink RX8 28 (TX8 8).1 (TX8 8).2.1 (TX8 8).2.2.1 ∈ zm_tb := (zm_in 911 rfl rfl)
set_option maxRecDepth 100000 in
theorem fiX8_31 : Cond.fieldLink RX8 31 (TX8 9).1 (TX8 9).2.1 (TX8 9).2.2.1 ∈ zm_tb := (zm_in 912 rfl rfl)
set_option maxRecDepth 100000 in
theorem fiX8_34 : Cond.fieldLink RX8 34 (TX8 10).1 (TX8 10).2.1 (TX8 10).2.2.1 ∈ zm_tb := (zm_in 913 rfl rfl)
set_option maxRecDepth 100000 in
theorem fiX8_37 : Cond.fieldLink RX8 37 (TX8 11).1 (TX8 11).2.1 (TX8 11).2.2.1 ∈ zm_tb := (zm_in 914 rfl rfl)
set_option maxRecDepth 100000 in
theorem fiX8_40 : Cond.fieldLink RX8 40 (TX8 12).1 (TX8 12).2.1 (TX8 12).2.2.1 ∈ zm_tb := (zm_in 915 rfl rfl)
set_option maxRecDepth 100000 in
theorem fiX8_43 : Cond.fieldLink RX8 43 (TX8 16).1 (TX8 16).2.1 (TX8 16).2.2.1 ∈ zm_tb := (zm_in 919 rfl rfl)
set_option maxRecDepth 100000 in
theorem fiX8_46 : Cond.fieldLink RX8 46 (TX8 17).1 (TX8 17).2.1 (TX8 17).2.2.1 ∈ zm_tb := (zm_in 920 rfl rfl)
set_option maxRecDepth 100000 in
theorem fiX8_49 : Cond.fieldLink RX8 49 (TX8 18).1 (TX8 18).2.1 (TX8 18).2.2.1 ∈ zm_tb := (zm_in 921 rfl rfl)
set_option maxRecDepth 100000 in
theorem fiX8_52 : Cond.fieldLink RX8 52 (TX8 19).1 (TX8 19).2.1 (TX8 19).2.2.1 ∈ zm_tb := (zm_in 922 rfl rfl)
set_option maxRecDepth 100000 in
theorem fiX8_55 : Cond.fieldLink RX8 55 (TX8 20).1 (TX8 20).2.1 (TX8 20).2.2.1 ∈ zm_tb := (zm_in 923 rfl rfl)
set_option maxRecDepth 100000 in
theorem fiX8_58 : Cond.fieldLink RX8 58 (TX8 23).1 (TX8 23).2.1 (TX8 23).2.2.1 ∈ zm_tb := (zm_in 926 rfl rfl)
set_option maxRecDepth 100000 in
theorem fiX8_61 : Cond.fieldLink RX8 61 (TX8 24).1 (TX8 24).2.1 (TX8 24).2.2.1 ∈ zm_tb := (zm_in 927 rfl rfl)
set_option maxRecDepth 100000 in
theorem fiX8_64 : Cond.fieldLink RX8 64 (TX8 25).1 (TX8 25).2.1 (TX8 25).2.2.1 ∈ zm_tb := (zm_in 928 rfl rfl)
set_option maxRecDepth 100000 in
theorem fiX8_67 : Cond.fieldLink RX8 67 (TX8 26).1 (TX8 26).2.1 (TX8 26).2.2.1 ∈ zm_tb := (zm_in 929 rfl rfl)
set_option maxRecDepth 100000 in
theorem fiX8_70 : Cond.fieldLink RX8 70 (TX8 27).1 (TX8 27).2.1 (TX8 27).2.2.1 ∈ zm_tb := (zm_in 930 rfl rfl)
set_option maxRecDepth 100000 in
theorem fiX8_73 : Cond.fieldLink RX8 73 (TX8 28).1 (TX8 28).2.1 (TX8 28).2.2.1 ∈ zm_tb := (zm_in 931 rfl rfl)
def zd_f1 : Nat → Int32 := (upd (upd (upd (upd (fun _ => 0) (((0 : Int32)).toNatClampNeg) (-1 : Int32)) (((1 : Int32)).toNatClampNeg) (-1 : Int32)) (((2 : Int32)).toNatClampNeg) (-1 : Int32)) (((3 : Int32)).toNatClampNeg) (-1 : Int32))
def zd_f5 : Nat → Int32 := (upd (upd (fun _ => 0) (((0 : Int32)).toNatClampNeg) (5 : Int32)) (((1 : Int32)).toNatClampNeg) (999 : Int32))
def zd_w0 : zm_S := (fun k => match k with
  | 1 => zd_f1
  | 5 => zd_f5
  | _ => fun _ => 0, fun _ _ => 0)
set_option maxRecDepth 100000 in
set_option maxHeartbeats 400000 in
theorem zd_Eo (h0 q1 q2 q3 q4 q5 q6 q7 q8 q9 q10 q11 q12 q13 q14 q15 q16 q17 q18 q19 q20 q21 q22 : Nat) : ([.ref q1, .ref q2, .ref q3, .ref q4, .int 0, .ref q5, .int 0, .ref q6, .ref q7, .ref q8, .ref q9, .ref q10, .ref q11, .int 0, .int 0, .int 0, .ref q12, .ref q13, .ref q14, .ref q15, .ref q16, .int 0, .int 0, .ref q17, .ref q18, .ref q19, .ref q20, .ref q21, .ref q22] : List Value) = ([some 1, some 2, some 3, some 4, none, some 5, none, some 6, some 7, some 8, some 9, some 10, some 11, none, none, none, some 12, some 13, some 14, some 15, some 16, none, none, some 17, some 18, some 19, some 20, some 21, some 22] : List (Option Nat)).mapIdx (zm_o (fun k => ([h0, q1, q2, q3, q4, q5, q6, q7, q8, q9, q10, q11, q12, q13, q14, q15, q16, q17, q18, q19, q20, q21, q22] : List Nat).getD k 0) (zd_w0.1 0)) := zm_o_of (fun k => match k with
  | 0 => rfl
  | 1 => rfl
  | 2 => rfl
  | 3 => rfl
  | 4 => rfl
  | 5 => rfl
  | 6 => rfl
  | 7 => rfl
  | 8 => rfl
  | 9 => rfl
  | 10 => rfl
  | 11 => rfl
  | 12 => rfl
  | 13 => rfl
  | 14 => rfl
  | 15 => rfl
  | 16 => rfl
  | 17 => rfl
  | 18 => rfl
  | 19 => rfl
  | 20 => rfl
  | 21 => rfl
  | 22 => rfl
  | 23 => rfl
  | 24 => rfl
  | 25 => rfl
  | 26 => rfl
  | 27 => rfl
  | 28 => rfl
  | k + 29 => rfl)
set_option maxRecDepth 100000 in
set_option maxHeartbeats 400000 in
theorem zd_E (h0 q1 q2 q3 q4 q5 q6 q7 q8 q9 q10 q11 q12 q13 q14 q15 q16 q17 q18 q19 q20 q21 q22 : Nat) (ca : FieldType → ClassId) : ([(h0, .inr (8, [.ref q1, .ref q2, .ref q3, .ref q4, .int 0, .ref q5, .int 0, .ref q6, .ref q7, .ref q8, .ref q9, .ref q10, .ref q11, .int 0, .int 0, .int 0, .ref q12, .ref q13, .ref q14, .ref q15, .ref q16, .int 0, .int 0, .ref q17, .ref q18, .ref q19, .ref q20, .ref q21, .ref q22])), (q1, .inl (ca .int, 4, .inl zd_f1)), (q2, .inl (ca .int, 4, .inl (fun _ => 0))), (q3, .inl (ca .int, 240, .inl (fun _ => 0))), (q4, .inl (ca .int, 60, .inl (fun _ => 0))), (q5, .inl (ca .int, 4, .inl zd_f5)), (q6, .inl (ca .int, 160, .inl (fun _ => 0))), (q7, .inl (ca .int, 160, .inl (fun _ => 0))), (q8, .inl (ca .int, 160, .inl (fun _ => 0))), (q9, .inl (ca .int, 160, .inl (fun _ => 0))), (q10, .inl (ca .int, 84, .inl (fun _ => 0))), (q11, .inl (ca .int, 60, .inl (fun _ => 0))), (q12, .inl (ca .int, 7, .inl (fun _ => 0))), (q13, .inl (ca .int, 7, .inl (fun _ => 0))), (q14, .inl (ca .int, 1536, .inl (fun _ => 0))), (q15, .inl (ca .int, 7, .inl (fun _ => 0))), (q16, .inl (ca .int, 7, .inl (fun _ => 0))), (q17, .inl (ca .int, 128, .inl (fun _ => 0))), (q18, .inl (ca .int, 14, .inl (fun _ => 0))), (q19, .inl (ca .int, 7, .inl (fun _ => 0))), (q20, .inl (ca .int, 16384, .inl (fun _ => 0))), (q21, .inl (ca .int, 12, .inl (fun _ => 0))), (q22, .inl (ca .int, 7, .inl (fun _ => 0)))] : va_W) = zm_W zd_H ca (fun k => ([h0, q1, q2, q3, q4, q5, q6, q7, q8, q9, q10, q11, q12, q13, q14, q15, q16, q17, q18, q19, q20, q21, q22] : List Nat).getD k 0) zd_w0 := zm_W_of (fun k => match k with
  | 0 => congrArg (fun v => some ((h0, .inr (8, v)) : Nat × va_E)) (zd_Eo h0 q1 q2 q3 q4 q5 q6 q7 q8 q9 q10 q11 q12 q13 q14 q15 q16 q17 q18 q19 q20 q21 q22)
  | 1 => rfl
  | 2 => rfl
  | 3 => rfl
  | 4 => rfl
  | 5 => rfl
  | 6 => rfl
  | 7 => rfl
  | 8 => rfl
  | 9 => rfl
  | 10 => rfl
  | 11 => rfl
  | 12 => rfl
  | 13 => rfl
  | 14 => rfl
  | 15 => rfl
  | 16 => rfl
  | 17 => rfl
  | 18 => rfl
  | 19 => rfl
  | 20 => rfl
  | 21 => rfl
  | 22 => rfl
  | k + 23 => rfl)
set_option maxRecDepth 100000 in
set_option maxHeartbeats 4000000 in
theorem k_X8_init : zb_C mX8_init { frames := 2, cells := 22, slots := 19212, locals := 70 } 8 [.null, .null, .null, .null, .int 0, .null, .int 0, .null, .null, .null, .null, .null, .null, .int 0, .int 0, .int 0, .null, .null, .null, .null, .null, .int 0, .int 0, .null, .null, .null, .null, .null, .null] zd_H zd_w0 := by
  refine zb_C.of mbX8_init (Nat.le_of_ble_eq_true rfl) ?_
  intro l D ca h0 p e s m args below meth c A Z hX hA hret
  refine zb_aload0 0 hX dX8_init_0 rfl ?_
  refine zb_obj hX dX8_init_1 obX8 zb_oi ⟨(Nat.le_of_ble_eq_true rfl), (Nat.le_of_ble_eq_true rfl)⟩ ?_
  refine zb_arr (pc1 := 6) (z := 4) (ty := .int) (ft := .int) (N := 4) (t0 := 0) (j := 0) (a0 := .inl (fun _ => 0)) hX hA dX8_init_4 rfl (fun kk => zb_iconst (v := 4) hX dX8_init_5 (by decide) kk) dX8_init_6 dX8_init_8 rfl rfl (fun h => h) zb_aint (fun _ => rfl) (by decide) (Nat.le_of_ble_eq_true rfl) (Nat.le_of_ble_eq_true rfl) clX8 fiX8_7 (Nat.le_of_ble_eq_true rfl) rfl rfl (by decide +kernel) (Nat.le_of_ble_eq_true rfl) (fun q1 => ?_)
  refine zb_arr (pc1 := 13) (z := 4) (ty := .int) (ft := .int) (N := 4) (t0 := 0) (j := 1) (a0 := .inl (fun _ => 0)) hX hA dX8_init_11 rfl (fun kk => zb_iconst (v := 4) hX dX8_init_12 (by decide) kk) dX8_init_13 dX8_init_15 rfl rfl (fun h => h) zb_aint (fun _ => rfl) (by decide) (Nat.le_of_ble_eq_true rfl) (Nat.le_of_ble_eq_true rfl) clX8 fiX8_13 (Nat.le_of_ble_eq_true rfl) rfl rfl (by decide +kernel) (Nat.le_of_ble_eq_true rfl) (fun q2 => ?_)
  refine zb_arr (pc1 := 22) (z := 240) (ty := .int) (ft := .int) (N := 240) (t0 := 0) (j := 2) (a0 := .inl (fun _ => 0)) hX hA dX8_init_18 rfl (fun kk => zb_sipush (v := 240) hX dX8_init_19 (by decide) kk) dX8_init_22 dX8_init_24 rfl rfl (fun h => h) zb_aint (fun _ => rfl) (by decide) (Nat.le_of_ble_eq_true rfl) (Nat.le_of_ble_eq_true rfl) clX8 fiX8_16 (Nat.le_of_ble_eq_true rfl) rfl rfl (by decide +kernel) (Nat.le_of_ble_eq_true rfl) (fun q3 => ?_)
  refine zb_arr (pc1 := 30) (z := 60) (ty := .int) (ft := .int) (N := 60) (t0 := 0) (j := 3) (a0 := .inl (fun _ => 0)) hX hA dX8_init_27 rfl (fun kk => zb_bipush (v := 60) hX dX8_init_28 (by decide) kk) dX8_init_30 dX8_init_32 rfl rfl (fun h => h) zb_aint (fun _ => rfl) (by decide) (Nat.le_of_ble_eq_true rfl) (Nat.le_of_ble_eq_true rfl) clX8 fiX8_19 (Nat.le_of_ble_eq_true rfl) rfl rfl (by decide +kernel) (Nat.le_of_ble_eq_true rfl) (fun q4 => ?_)
  refine zb_arr (pc1 := 37) (z := 4) (ty := .int) (ft := .int) (N := 4) (t0 := 0) (j := 5) (a0 := .inl (fun _ => 0)) hX hA dX8_init_35 rfl (fun kk => zb_iconst (v := 4) hX dX8_init_36 (by decide) kk) dX8_init_37 dX8_init_39 rfl rfl (fun h => h) zb_aint (fun _ => rfl) (by decide) (Nat.le_of_ble_eq_true rfl) (Nat.le_of_ble_eq_true rfl) clX8 fiX8_22 (Nat.le_of_ble_eq_true rfl) rfl rfl (by decide +kernel) (Nat.le_of_ble_eq_true rfl) (fun q5 => ?_)
  refine zb_arr (pc1 := 46) (z := 160) (ty := .int) (ft := .int) (N := 160) (t0 := 0) (j := 7) (a0 := .inl (fun _ => 0)) hX hA dX8_init_42 rfl (fun kk => zb_sipush (v := 160) hX dX8_init_43 (by decide) kk) dX8_init_46 dX8_init_48 rfl rfl (fun h => h) zb_aint (fun _ => rfl) (by decide) (Nat.le_of_ble_eq_true rfl) (Nat.le_of_ble_eq_true rfl) clX8 fiX8_25 (Nat.le_of_ble_eq_true rfl) rfl rfl (by decide +kernel) (Nat.le_of_ble_eq_true rfl) (fun q6 => ?_)
  refine zb_arr (pc1 := 55) (z := 160) (ty := .int) (ft := .int) (N := 160) (t0 := 0) (j := 8) (a0 := .inl (fun _ => 0)) hX hA dX8_init_51 rfl (fun kk => zb_sipush (v := 160) hX dX8_init_52 (by decide) kk) dX8_init_55 dX8_init_57 rfl rfl (fun h => h) zb_aint (fun _ => rfl) (by decide) (Nat.le_of_ble_eq_true rfl) (Nat.le_of_ble_eq_true rfl) clX8 fiX8_28 (Nat.le_of_ble_eq_true rfl) rfl rfl (by decide +kernel) (Nat.le_of_ble_eq_true rfl) (fun q7 => ?_)
  refine zb_arr (pc1 := 64) (z := 160) (ty := .int) (ft := .int) (N := 160) (t0 := 0) (j := 9) (a0 := .inl (fun _ => 0)) hX hA dX8_init_60 rfl (fun kk => zb_sipush (v := 160) hX dX8_init_61 (by decide) kk) dX8_init_64 dX8_init_66 rfl rfl (fun h => h) zb_aint (fun _ => rfl) (by decide) (Nat.le_of_ble_eq_true rfl) (Nat.le_of_ble_eq_true rfl) clX8 fiX8_31 (Nat.le_of_ble_eq_true rfl) rfl rfl (by decide +kernel) (Nat.le_of_ble_eq_true rfl) (fun q8 => ?_)
  refine zb_ws (ws' := [(h0, .inr (8, [.ref q1, .ref q2, .ref q3, .ref q4, .int 0, .ref q5, .int 0, .ref q6, .ref q7, .ref q8, .null, .null, .null, .int 0, .int 0, .int 0, .null, .null, .null, .null, .null, .int 0, .int 0, .null, .null, .null, .null, .null, .null])), (q1, .inl (ca .int, 4, .inl (fun _ => 0))), (q2, .inl (ca .int, 4, .inl (fun _ => 0))), (q3, .inl (ca .int, 240, .inl (fun _ => 0))), (q4, .inl (ca .int, 60, .inl (fun _ => 0))), (q5, .inl (ca .int, 4, .inl (fun _ => 0))), (q6, .inl (ca .int, 160, .inl (fun _ => 0))), (q7, .inl (ca .int, 160, .inl (fun _ => 0))), (q8, .inl (ca .int, 160, .inl (fun _ => 0)))]) rfl ?_
  refine zb_arr (pc1 := 73) (z := 160) (ty := .int) (ft := .int) (N := 160) (t0 := 0) (j := 10) (a0 := .inl (fun _ => 0)) hX hA dX8_init_69 rfl (fun kk => zb_sipush (v := 160) hX dX8_init_70 (by decide) kk) dX8_init_73 dX8_init_75 rfl rfl (fun h => h) zb_aint (fun _ => rfl) (by decide) (Nat.le_of_ble_eq_true rfl) (Nat.le_of_ble_eq_true rfl) clX8 fiX8_34 (Nat.le_of_ble_eq_true rfl) rfl rfl (by decide +kernel) (Nat.le_of_ble_eq_true rfl) (fun q9 => ?_)
  refine zb_arr (pc1 := 81) (z := 84) (ty := .int) (ft := .int) (N := 84) (t0 := 0) (j := 11) (a0 := .inl (fun _ => 0)) hX hA dX8_init_78 rfl (fun kk => zb_bipush (v := 84) hX dX8_init_79 (by decide) kk) dX8_init_81 dX8_init_83 rfl rfl (fun h => h) zb_aint (fun _ => rfl) (by decide) (Nat.le_of_ble_eq_true rfl) (Nat.le_of_ble_eq_true rfl) clX8 fiX8_37 (Nat.le_of_ble_eq_true rfl) rfl rfl (by decide +kernel) (Nat.le_of_ble_eq_true rfl) (fun q10 => ?_)
  refine zb_arr (pc1 := 89) (z := 60) (ty := .int) (ft := .int) (N := 60) (t0 := 0) (j := 12) (a0 := .inl (fun _ => 0)) hX hA dX8_init_86 rfl (fun kk => zb_bipush (v := 60) hX dX8_init_87 (by decide) kk) dX8_init_89 dX8_init_91 rfl rfl (fun h => h) zb_aint (fun _ => rfl) (by decide) (Nat.le_of_ble_eq_true rfl) (Nat.le_of_ble_eq_true rfl) clX8 fiX8_40 (Nat.le_of_ble_eq_true rfl) rfl rfl (by decide +kernel) (Nat.le_of_ble_eq_true rfl) (fun q11 => ?_)
  refine zb_arr (pc1 := 97) (z := 7) (ty := .int) (ft := .int) (N := 7) (t0 := 0) (j := 16) (a0 := .inl (fun _ => 0)) hX hA dX8_init_94 rfl (fun kk => zb_bipush (v := 7) hX dX8_init_95 (by decide) kk) dX8_init_97 dX8_init_99 rfl rfl (fun h => h) zb_aint (fun _ => rfl) (by decide) (Nat.le_of_ble_eq_true rfl) (Nat.le_of_ble_eq_true rfl) clX8 fiX8_43 (Nat.le_of_ble_eq_true rfl) rfl rfl (by decide +kernel) (Nat.le_of_ble_eq_true rfl) (fun q12 => ?_)
  refine zb_arr (pc1 := 105) (z := 7) (ty := .int) (ft := .int) (N := 7) (t0 := 0) (j := 17) (a0 := .inl (fun _ => 0)) hX hA dX8_init_102 rfl (fun kk => zb_bipush (v := 7) hX dX8_init_103 (by decide) kk) dX8_init_105 dX8_init_107 rfl rfl (fun h => h) zb_aint (fun _ => rfl) (by decide) (Nat.le_of_ble_eq_true rfl) (Nat.le_of_ble_eq_true rfl) clX8 fiX8_46 (Nat.le_of_ble_eq_true rfl) rfl rfl (by decide +kernel) (Nat.le_of_ble_eq_true rfl) (fun q13 => ?_)
  refine zb_arr (pc1 := 114) (z := 1536) (ty := .int) (ft := .int) (N := 1536) (t0 := 0) (j := 18) (a0 := .inl (fun _ => 0)) hX hA dX8_init_110 rfl (fun kk => zb_sipush (v := 1536) hX dX8_init_111 (by decide) kk) dX8_init_114 dX8_init_116 rfl rfl (fun h => h) zb_aint (fun _ => rfl) (by decide) (Nat.le_of_ble_eq_true rfl) (Nat.le_of_ble_eq_true rfl) clX8 fiX8_49 (Nat.le_of_ble_eq_true rfl) rfl rfl (by decide +kernel) (Nat.le_of_ble_eq_true rfl) (fun q14 => ?_)
  refine zb_arr (pc1 := 122) (z := 7) (ty := .int) (ft := .int) (N := 7) (t0 := 0) (j := 19) (a0 := .inl (fun _ => 0)) hX hA dX8_init_119 rfl (fun kk => zb_bipush (v := 7) hX dX8_init_120 (by decide) kk) dX8_init_122 dX8_init_124 rfl rfl (fun h => h) zb_aint (fun _ => rfl) (by decide) (Nat.le_of_ble_eq_true rfl) (Nat.le_of_ble_eq_true rfl) clX8 fiX8_52 (Nat.le_of_ble_eq_true rfl) rfl rfl (by decide +kernel) (Nat.le_of_ble_eq_true rfl) (fun q15 => ?_)
  refine zb_arr (pc1 := 130) (z := 7) (ty := .int) (ft := .int) (N := 7) (t0 := 0) (j := 20) (a0 := .inl (fun _ => 0)) hX hA dX8_init_127 rfl (fun kk => zb_bipush (v := 7) hX dX8_init_128 (by decide) kk) dX8_init_130 dX8_init_132 rfl rfl (fun h => h) zb_aint (fun _ => rfl) (by decide) (Nat.le_of_ble_eq_true rfl) (Nat.le_of_ble_eq_true rfl) clX8 fiX8_55 (Nat.le_of_ble_eq_true rfl) rfl rfl (by decide +kernel) (Nat.le_of_ble_eq_true rfl) (fun q16 => ?_)
  refine zb_ws (ws' := [(h0, .inr (8, [.ref q1, .ref q2, .ref q3, .ref q4, .int 0, .ref q5, .int 0, .ref q6, .ref q7, .ref q8, .ref q9, .ref q10, .ref q11, .int 0, .int 0, .int 0, .ref q12, .ref q13, .ref q14, .ref q15, .ref q16, .int 0, .int 0, .null, .null, .null, .null, .null, .null])), (q1, .inl (ca .int, 4, .inl (fun _ => 0))), (q2, .inl (ca .int, 4, .inl (fun _ => 0))), (q3, .inl (ca .int, 240, .inl (fun _ => 0))), (q4, .inl (ca .int, 60, .inl (fun _ => 0))), (q5, .inl (ca .int, 4, .inl (fun _ => 0))), (q6, .inl (ca .int, 160, .inl (fun _ => 0))), (q7, .inl (ca .int, 160, .inl (fun _ => 0))), (q8, .inl (ca .int, 160, .inl (fun _ => 0))), (q9, .inl (ca .int, 160, .inl (fun _ => 0))), (q10, .inl (ca .int, 84, .inl (fun _ => 0))), (q11, .inl (ca .int, 60, .inl (fun _ => 0))), (q12, .inl (ca .int, 7, .inl (fun _ => 0))), (q13, .inl (ca .int, 7, .inl (fun _ => 0))), (q14, .inl (ca .int, 1536, .inl (fun _ => 0))), (q15, .inl (ca .int, 7, .inl (fun _ => 0))), (q16, .inl (ca .int, 7, .inl (fun _ => 0)))]) rfl ?_
  refine zb_arr (pc1 := 139) (z := 128) (ty := .int) (ft := .int) (N := 128) (t0 := 0) (j := 23) (a0 := .inl (fun _ => 0)) hX hA dX8_init_135 rfl (fun kk => zb_sipush (v := 128) hX dX8_init_136 (by decide) kk) dX8_init_139 dX8_init_141 rfl rfl (fun h => h) zb_aint (fun _ => rfl) (by decide) (Nat.le_of_ble_eq_true rfl) (Nat.le_of_ble_eq_true rfl) clX8 fiX8_58 (Nat.le_of_ble_eq_true rfl) rfl rfl (by decide +kernel) (Nat.le_of_ble_eq_true rfl) (fun q17 => ?_)
  refine zb_arr (pc1 := 147) (z := 14) (ty := .int) (ft := .int) (N := 14) (t0 := 0) (j := 24) (a0 := .inl (fun _ => 0)) hX hA dX8_init_144 rfl (fun kk => zb_bipush (v := 14) hX dX8_init_145 (by decide) kk) dX8_init_147 dX8_init_149 rfl rfl (fun h => h) zb_aint (fun _ => rfl) (by decide) (Nat.le_of_ble_eq_true rfl) (Nat.le_of_ble_eq_true rfl) clX8 fiX8_61 (Nat.le_of_ble_eq_true rfl) rfl rfl (by decide +kernel) (Nat.le_of_ble_eq_true rfl) (fun q18 => ?_)
  refine zb_arr (pc1 := 155) (z := 7) (ty := .int) (ft := .int) (N := 7) (t0 := 0) (j := 25) (a0 := .inl (fun _ => 0)) hX hA dX8_init_152 rfl (fun kk => zb_bipush (v := 7) hX dX8_init_153 (by decide) kk) dX8_init_155 dX8_init_157 rfl rfl (fun h => h) zb_aint (fun _ => rfl) (by decide) (Nat.le_of_ble_eq_true rfl) (Nat.le_of_ble_eq_true rfl) clX8 fiX8_64 (Nat.le_of_ble_eq_true rfl) rfl rfl (by decide +kernel) (Nat.le_of_ble_eq_true rfl) (fun q19 => ?_)
  refine zb_arr (pc1 := 164) (z := 16384) (ty := .int) (ft := .int) (N := 16384) (t0 := 0) (j := 26) (a0 := .inl (fun _ => 0)) hX hA dX8_init_160 rfl (fun kk => zb_sipush (v := 16384) hX dX8_init_161 (by decide) kk) dX8_init_164 dX8_init_166 rfl rfl (fun h => h) zb_aint (fun _ => rfl) (by decide) (Nat.le_of_ble_eq_true rfl) (Nat.le_of_ble_eq_true rfl) clX8 fiX8_67 (Nat.le_of_ble_eq_true rfl) rfl rfl (by decide +kernel) (Nat.le_of_ble_eq_true rfl) (fun q20 => ?_)
  refine zb_arr (pc1 := 172) (z := 12) (ty := .int) (ft := .int) (N := 12) (t0 := 0) (j := 27) (a0 := .inl (fun _ => 0)) hX hA dX8_init_169 rfl (fun kk => zb_bipush (v := 12) hX dX8_init_170 (by decide) kk) dX8_init_172 dX8_init_174 rfl rfl (fun h => h) zb_aint (fun _ => rfl) (by decide) (Nat.le_of_ble_eq_true rfl) (Nat.le_of_ble_eq_true rfl) clX8 fiX8_70 (Nat.le_of_ble_eq_true rfl) rfl rfl (by decide +kernel) (Nat.le_of_ble_eq_true rfl) (fun q21 => ?_)
  refine zb_arr (pc1 := 180) (z := 7) (ty := .int) (ft := .int) (N := 7) (t0 := 0) (j := 28) (a0 := .inl (fun _ => 0)) hX hA dX8_init_177 rfl (fun kk => zb_bipush (v := 7) hX dX8_init_178 (by decide) kk) dX8_init_180 dX8_init_182 rfl rfl (fun h => h) zb_aint (fun _ => rfl) (by decide) (Nat.le_of_ble_eq_true rfl) (Nat.le_of_ble_eq_true rfl) clX8 fiX8_73 (Nat.le_of_ble_eq_true rfl) rfl rfl (by decide +kernel) (Nat.le_of_ble_eq_true rfl) (fun q22 => ?_)
  refine zb_iconst (v := (0 : Int32)) hX dX8_init_185 (by decide) ?_
  refine zb_istore_n (ls' := [(1, .int (0 : Int32)), (0, .ref h0)]) hX dX8_init_186 rfl (Nat.le_of_ble_eq_true rfl) rfl ?_
  refine zb_iload_n (x := (0 : Int32)) 0 hX dX8_init_187 rfl rfl ?_
  refine zb_iconst (v := (4 : Int32)) hX dX8_init_188 (by decide) ?_
  refine zb_icmp_ge 205 hX dX8_init_189 (by decide) (fun h => absurd h (by decide)) (fun _ => ?_)
  refine zb_aload0 1 hX dX8_init_192 rfl ?_
  refine zb_getf (q0 := 0) (j := 0) (v := .ref q1) hX dX8_init_193 clX8 fiX8_7 (Nat.le_of_ble_eq_true rfl) rfl rfl ?_
  refine zb_iload_n (x := (0 : Int32)) 0 hX dX8_init_196 rfl rfl ?_
  refine zb_iconst (v := (-1 : Int32)) hX dX8_init_197 (by decide) ?_
  refine zb_iast (q0 := 1) hX dX8_init_198 rfl (vp_in_nI (n := 0) (by decide) (by decide)) ?_
  refine zb_iinc (j := 0) (x := (0 : Int32)) (v := (1 : Int32)) (ls' := [(1, .int (1 : Int32)), (0, .ref h0)]) hX dX8_init_199 rfl (by decide) (Nat.le_of_ble_eq_true rfl) rfl ?_
  refine zb_goto 187 hX dX8_init_202 (by decide) ?_
  refine zb_iload_n (x := (1 : Int32)) 0 hX dX8_init_187 rfl rfl ?_
  refine zb_iconst (v := (4 : Int32)) hX dX8_init_188 (by decide) ?_
  refine zb_icmp_ge 205 hX dX8_init_189 (by decide) (fun h => absurd h (by decide)) (fun _ => ?_)
  refine zb_aload0 1 hX dX8_init_192 rfl ?_
  refine zb_getf (q0 := 0) (j := 0) (v := .ref q1) hX dX8_init_193 clX8 fiX8_7 (Nat.le_of_ble_eq_true rfl) rfl rfl ?_
  refine zb_iload_n (x := (1 : Int32)) 0 hX dX8_init_196 rfl rfl ?_
  refine zb_iconst (v := (-1 : Int32)) hX dX8_init_197 (by decide) ?_
  refine zb_iast (q0 := 1) hX dX8_init_198 rfl (vp_in_nI (n := 1) (by decide) (by decide)) ?_
  refine zb_iinc (j := 0) (x := (1 : Int32)) (v := (2 : Int32)) (ls' := [(1, .int (2 : Int32)), (0, .ref h0)]) hX dX8_init_199 rfl (by decide) (Nat.le_of_ble_eq_true rfl) rfl ?_
  refine zb_goto 187 hX dX8_init_202 (by decide) ?_
  refine zb_iload_n (x := (2 : Int32)) 0 hX dX8_init_187 rfl rfl ?_
  refine zb_iconst (v := (4 : Int32)) hX dX8_init_188 (by decide) ?_
  refine zb_icmp_ge 205 hX dX8_init_189 (by decide) (fun h => absurd h (by decide)) (fun _ => ?_)
  refine zb_aload0 1 hX dX8_init_192 rfl ?_
  refine zb_getf (q0 := 0) (j := 0) (v := .ref q1) hX dX8_init_193 clX8 fiX8_7 (Nat.le_of_ble_eq_true rfl) rfl rfl ?_
  refine zb_iload_n (x := (2 : Int32)) 0 hX dX8_init_196 rfl rfl ?_
  refine zb_iconst (v := (-1 : Int32)) hX dX8_init_197 (by decide) ?_
  refine zb_iast (q0 := 1) hX dX8_init_198 rfl (vp_in_nI (n := 2) (by decide) (by decide)) ?_
  refine zb_iinc (j := 0) (x := (2 : Int32)) (v := (3 : Int32)) (ls' := [(1, .int (3 : Int32)), (0, .ref h0)]) hX dX8_init_199 rfl (by decide) (Nat.le_of_ble_eq_true rfl) rfl ?_
  refine zb_goto 187 hX dX8_init_202 (by decide) ?_
  refine zb_iload_n (x := (3 : Int32)) 0 hX dX8_init_187 rfl rfl ?_
  refine zb_iconst (v := (4 : Int32)) hX dX8_init_188 (by decide) ?_
  refine zb_icmp_ge 205 hX dX8_init_189 (by decide) (fun h => absurd h (by decide)) (fun _ => ?_)
  refine zb_aload0 1 hX dX8_init_192 rfl ?_
  refine zb_getf (q0 := 0) (j := 0) (v := .ref q1) hX dX8_init_193 clX8 fiX8_7 (Nat.le_of_ble_eq_true rfl) rfl rfl ?_
  refine zb_iload_n (x := (3 : Int32)) 0 hX dX8_init_196 rfl rfl ?_
  refine zb_iconst (v := (-1 : Int32)) hX dX8_init_197 (by decide) ?_
  refine zb_iast (q0 := 1) hX dX8_init_198 rfl (vp_in_nI (n := 3) (by decide) (by decide)) ?_
  refine zb_iinc (j := 0) (x := (3 : Int32)) (v := (4 : Int32)) (ls' := [(1, .int (4 : Int32)), (0, .ref h0)]) hX dX8_init_199 rfl (by decide) (Nat.le_of_ble_eq_true rfl) rfl ?_
  refine zb_goto 187 hX dX8_init_202 (by decide) ?_
  refine zb_iload_n (x := (4 : Int32)) 0 hX dX8_init_187 rfl rfl ?_
  refine zb_iconst (v := (4 : Int32)) hX dX8_init_188 (by decide) ?_
  refine zb_icmp_ge 205 hX dX8_init_189 (by decide) (fun _ => ?_) (fun h => absurd (by decide) h)
  refine zb_aload0 1 hX dX8_init_205 rfl ?_
  refine zb_getf (q0 := 0) (j := 5) (v := .ref q5) hX dX8_init_206 clX8 fiX8_22 (Nat.le_of_ble_eq_true rfl) rfl rfl ?_
  refine zb_iconst (v := (0 : Int32)) hX dX8_init_209 (by decide) ?_
  refine zb_iconst (v := (5 : Int32)) hX dX8_init_210 (by decide) ?_
  refine zb_iast (q0 := 5) hX dX8_init_211 rfl (vp_in_nI (n := 0) (by decide) (by decide)) ?_
  refine zb_aload0 1 hX dX8_init_212 rfl ?_
  refine zb_getf (q0 := 0) (j := 5) (v := .ref q5) hX dX8_init_213 clX8 fiX8_22 (Nat.le_of_ble_eq_true rfl) rfl rfl ?_
  refine zb_iconst (v := (1 : Int32)) hX dX8_init_216 (by decide) ?_
  refine zb_sipush (v := (999 : Int32)) hX dX8_init_217 (by decide) ?_
  refine zb_iast (q0 := 5) hX dX8_init_220 rfl (vp_in_nI (n := 1) (by decide) (by decide)) ?_
  refine zb_ws (ws' := [(h0, .inr (8, [.ref q1, .ref q2, .ref q3, .ref q4, .int 0, .ref q5, .int 0, .ref q6, .ref q7, .ref q8, .ref q9, .ref q10, .ref q11, .int 0, .int 0, .int 0, .ref q12, .ref q13, .ref q14, .ref q15, .ref q16, .int 0, .int 0, .ref q17, .ref q18, .ref q19, .ref q20, .ref q21, .ref q22])), (q1, .inl (ca .int, 4, .inl zd_f1)), (q2, .inl (ca .int, 4, .inl (fun _ => 0))), (q3, .inl (ca .int, 240, .inl (fun _ => 0))), (q4, .inl (ca .int, 60, .inl (fun _ => 0))), (q5, .inl (ca .int, 4, .inl zd_f5)), (q6, .inl (ca .int, 160, .inl (fun _ => 0))), (q7, .inl (ca .int, 160, .inl (fun _ => 0))), (q8, .inl (ca .int, 160, .inl (fun _ => 0))), (q9, .inl (ca .int, 160, .inl (fun _ => 0))), (q10, .inl (ca .int, 84, .inl (fun _ => 0))), (q11, .inl (ca .int, 60, .inl (fun _ => 0))), (q12, .inl (ca .int, 7, .inl (fun _ => 0))), (q13, .inl (ca .int, 7, .inl (fun _ => 0))), (q14, .inl (ca .int, 1536, .inl (fun _ => 0))), (q15, .inl (ca .int, 7, .inl (fun _ => 0))), (q16, .inl (ca .int, 7, .inl (fun _ => 0))), (q17, .inl (ca .int, 128, .inl (fun _ => 0))), (q18, .inl (ca .int, 14, .inl (fun _ => 0))), (q19, .inl (ca .int, 7, .inl (fun _ => 0))), (q20, .inl (ca .int, 16384, .inl (fun _ => 0))), (q21, .inl (ca .int, 12, .inl (fun _ => 0))), (q22, .inl (ca .int, 7, .inl (fun _ => 0)))]) rfl ?_
  refine zb_ws (zd_E h0 q1 q2 q3 q4 q5 q6 q7 q8 q9 q10 q11 q12 q13 q14 q15 q16 q17 q18 q19 q20 q21 q22 ca) ?_
  exact zb_widen (Nat.le_of_ble_eq_true rfl) (Nat.le_of_ble_eq_true rfl) (hret 221 _ (fun k => ([h0, q1, q2, q3, q4, q5, q6, q7, q8, q9, q10, q11, q12, q13, q14, q15, q16, q17, q18, q19, q20, q21, q22] : List Nat).getD k 0) dX8_init_221 rfl)
