set_option maxRecDepth 100000 in
theorem zb_oi : Cond.instanceMethod Lib.objectInit ∈ zm_tb ∧ Cond.code Lib.objectInit ⟨#[0xb1]⟩ 1 none ∈ zm_tb := ⟨(zm_in 98 rfl rfl), (zm_in 99 rfl rfl)⟩
set_option maxRecDepth 100000 in
theorem zb_aint : Cond.arrayClass .int ∈ zm_tb := (zm_in 148 rfl rfl)
set_option maxRecDepth 100000 in
theorem zb_along : Cond.arrayClass .long ∈ zm_tb := (zm_in 239 rfl rfl)
set_option maxRecDepth 100000 in
theorem zb_abyte : Cond.arrayClass .byte ∈ zm_tb := (zm_in 149 rfl rfl)
set_option maxRecDepth 100000 in
theorem zb_ashort : Cond.arrayClass .short ∈ zm_tb := (zm_in 150 rfl rfl)
set_option maxRecDepth 100000 in
theorem zb_aboolean : Cond.arrayClass .boolean ∈ zm_tb := (zm_in 282 rfl rfl)
def mX0_init : zm_M := (RX0, yX0_init, cX0_init, 1, none)
set_option maxRecDepth 100000 in
theorem mbX0_init : zb_M mX0_init := ⟨(zm_in 104 rfl rfl), (zm_in 80 rfl rfl), (zm_in 103 rfl rfl), rfl, ⟨by decide +kernel, by decide +kernel, by decide +kernel⟩, rfl, by decide +kernel, rfl⟩
set_option maxRecDepth 100000 in
theorem obX0 : Cond.methodLink RX0 3 Lib.objectInit ∈ zm_tb := (zm_in 105 rfl rfl)
set_option maxRecDepth 100000 in
theorem fiX0_9 : Cond.fieldLink RX0 9 (TX0 0).1 (TX0 0).2.1 (TX0 0).2.2.1 ∈ zm_tb := (zm_in 106 rfl rfl)
set_option maxRecDepth 100000 in
theorem fiX0_15 : Cond.fieldLink RX0 15 (TX0 1).1 (TX0 1).2.1 (TX0 1).2.2.1 ∈ zm_tb := (zm_in 107 rfl rfl)
set_option maxRecDepth 100000 in
theorem fiX0_18 : Cond.fieldLink RX0 18 (TX0 2).1 (TX0 2).2.1 (TX0 2).2.2.1 ∈ zm_tb := (zm_in 108 rfl rfl)
set_option maxRecDepth 100000 in
theorem fiX0_21 : Cond.fieldLink RX0 21 (TX0 3).1 (TX0 3).2.1 (TX0 3).2.2.1 ∈ zm_tb := (zm_in 109 rfl rfl)
set_option maxRecDepth 100000 in
theorem fiX0_25 : Cond.fieldLink RX0 25 (TX0 4).1 (TX0 4).2.1 (TX0 4).2.2.1 ∈ zm_tb := (zm_in 110 rfl rfl)
set_option maxRecDepth 100000 in
theorem fiX0_29 : Cond.fieldLink RX0 29 (TX0 5).1 (TX0 5).2.1 (TX0 5).2.2.1 ∈ zm_tb := (zm_in 111 rfl rfl)
set_option maxRecDepth 100000 in
theorem fiX0_32 : Cond.fieldLink RX0 32 (TX0 6).1 (TX0 6).2.1 (TX0 6).2.2.1 ∈ zm_tb := (zm_in 112 rfl rfl)
set_option maxRecDepth 100000 in
theorem fiX0_35 : Cond.fieldLink RX0 35 (TX0 7).1 (TX0 7).2.1 (TX0 7).2.2.1 ∈ zm_tb := (zm_in 113 rfl rfl)
set_option maxRecDepth 100000 in
theorem fiX0_38 : Cond.fieldLink RX0 38 (TX0 9).1 (TX0 9).2.1 (TX0 9).2.2.1 ∈ zm_tb := (zm_in 116 rfl rfl)
set_option maxRecDepth 100000 in
theorem fiX0_42 : Cond.fieldLink RX0 42 (TX0 10).1 (TX0 10).2.1 (TX0 10).2.2.1 ∈ zm_tb := (zm_in 119 rfl rfl)
set_option maxRecDepth 100000 in
theorem fiX0_45 : Cond.fieldLink RX0 45 (TX0 11).1 (TX0 11).2.1 (TX0 11).2.2.1 ∈ zm_tb := (zm_in 122 rfl rfl)
def mX1_init : zm_M := (RX1, yX1_init, cX1_init, 1, none)
set_option maxRecDepth 100000 in
theorem mbX1_init : zb_M mX1_init := ⟨(zm_in 287 rfl rfl), (zm_in 84 rfl rfl), (zm_in 286 rfl rfl), rfl, ⟨by decide +kernel, by decide +kernel, by decide +kernel⟩, rfl, by decide +kernel, rfl⟩
set_option maxRecDepth 100000 in
theorem obX1 : Cond.methodLink RX1 3 Lib.objectInit ∈ zm_tb := (zm_in 288 rfl rfl)
set_option maxRecDepth 100000 in
theorem fiX1_9 : Cond.fieldLink RX1 9 (TX1 0).1 (TX1 0).2.1 (TX1 0).2.2.1 ∈ zm_tb := (zm_in 289 rfl rfl)
def mX2_init : zm_M := (RX2, yX2_init, cX2_init, 1, none)
set_option maxRecDepth 100000 in
theorem mbX2_init : zb_M mX2_init := ⟨(zm_in 155 rfl rfl), (zm_in 81 rfl rfl), (zm_in 154 rfl rfl), rfl, ⟨by decide +kernel, by decide +kernel, by decide +kernel⟩, rfl, by decide +kernel, rfl⟩
set_option maxRecDepth 100000 in
theorem obX2 : Cond.methodLink RX2 3 Lib.objectInit ∈ zm_tb := (zm_in 156 rfl rfl)
set_option maxRecDepth 100000 in
theorem fiX2_9 : Cond.fieldLink RX2 9 (TX2 0).1 (TX2 0).2.1 (TX2 0).2.2.1 ∈ zm_tb := (zm_in 157 rfl rfl)
set_option maxRecDepth 100000 in
theorem fiX2_15 : Cond.fieldLink RX2 15 (TX2 1).1 (TX2 1).2.1 (TX2 1).2.2.1 ∈ zm_tb := (zm_in 158 rfl rfl)
set_option maxRecDepth 100000 in
theorem fiX2_18 : Cond.fieldLink RX2 18 (TX2 2).1 (TX2 2).2.1 (TX2 2).2.2.1 ∈ zm_tb := (zm_in 160 rfl rfl)
set_option maxRecDepth 100000 in
theorem fiX2_21 : Cond.fieldLink RX2 21 (TX2 5).1 (TX2 5).2.1 (TX2 5).2.2.1 ∈ zm_tb := (zm_in 165 rfl rfl)
def mX3_init : zm_M := (RX3, yX3_init, cX3_init, 1, none)
set_option maxRecDepth 100000 in
theorem mbX3_init : zb_M mX3_init := ⟨(zm_in 303 rfl rfl), (zm_in 85 rfl rfl), (zm_in 302 rfl rfl), rfl, ⟨by decide +kernel, by decide +kernel, by decide +kernel⟩, rfl, by decide +kernel, rfl⟩
set_option maxRecDepth 100000 in
theorem obX3 : Cond.methodLink RX3 3 Lib.objectInit ∈ zm_tb := (zm_in 304 rfl rfl)
set_option maxRecDepth 100000 in
theorem fiX3_11 : Cond.fieldLink RX3 11 (TX3 0).1 (TX3 0).2.1 (TX3 0).2.2.1 ∈ zm_tb := (zm_in 307 rfl rfl)
set_option maxRecDepth 100000 in
theorem fiX3_16 : Cond.fieldLink RX3 16 (TX3 1).1 (TX3 1).2.1 (TX3 1).2.2.1 ∈ zm_tb := (zm_in 308 rfl rfl)
set_option maxRecDepth 100000 in
theorem fiX3_20 : Cond.fieldLink RX3 20 (TX3 2).1 (TX3 2).2.1 (TX3 2).2.2.1 ∈ zm_tb := (zm_in 309 rfl rfl)
def mX4_init : zm_M := (RX4, yX4_init, cX4_init, 1, none)
set_option maxRecDepth 100000 in
theorem mbX4_init : zb_M mX4_init := ⟨(zm_in 184 rfl rfl), (zm_in 82 rfl rfl), (zm_in 183 rfl rfl), rfl, ⟨by decide +kernel, by decide +kernel, by decide +kernel⟩, rfl, by decide +kernel, rfl⟩
set_option maxRecDepth 100000 in
theorem obX4 : Cond.methodLink RX4 3 Lib.objectInit ∈ zm_tb := (zm_in 185 rfl rfl)
set_option maxRecDepth 100000 in
theorem fiX4_9 : Cond.fieldLink RX4 9 (TX4 0).1 (TX4 0).2.1 (TX4 0).2.2.1 ∈ zm_tb := (zm_in 186 rfl rfl)
set_option maxRecDepth 100000 in
theorem fiX4_15 : Cond.fieldLink RX4 15 (TX4 1).1 (TX4 1).2.1 (TX4 1).2.2.1 ∈ zm_tb := (zm_in 187 rfl rfl)
set_option maxRecDepth 100000 in
theorem fiX4_18 : Cond.fieldLink RX4 18 (TX4 2).1 (TX4 2).2.1 (TX4 2).2.2.1 ∈ zm_tb := (zm_in 188 rfl rfl)
set_option maxRecDepth 100000 in
theorem fiX4_21 : Cond.fieldLink RX4 21 (TX4 3).1 (TX4 3).2.1 (TX4 3).2.2.1 ∈ zm_tb := (zm_in 189 rfl rfl)
set_option maxRecDepth 100000 in
theorem fiX4_24 : Cond.fieldLink RX4 24 (TX4 4).1 (TX4 4).2.1 (TX4 4).2.2.1 ∈ zm_tb := (zm_in 190 rfl rfl)
set_option maxRecDepth 100000 in
theorem fiX4_28 : Cond.fieldLink RX4 28 (TX4 5).1 (TX4 5).2.1 (TX4 5).2.2.1 ∈ zm_tb := (zm_in 191 rfl rfl)
set_option maxRecDepth 100000 in
theorem fiX4_31 : Cond.fieldLink RX4 31 (TX4 6).1 (TX4 6).2.1 (TX4 6).2.2.1 ∈ zm_tb := (zm_in 193 rfl rfl)
def mX5_init : zm_M := (RX5, yX5_init, cX5_init, 1, none)
set_option maxRecDepth 100000 in
theorem mbX5_init : zb_M mX5_init := ⟨(zm_in 333 rfl rfl), (zm_in 86 rfl rfl), (zm_in 332 rfl rfl), rfl, ⟨by decide +kernel, by decide +kernel, by decide +kernel⟩, rfl, by decide +kernel, rfl⟩
set_option maxRecDepth 100000 in
theorem obX5 : Cond.methodLink RX5 3 Lib.objectInit ∈ zm_tb := (zm_in 334 rfl rfl)
set_option maxRecDepth 100000 in
theorem fiX5_9 : Cond.fieldLink RX5 9 (TX5 0).1 (TX5 0).2.1 (TX5 0).2.2.1 ∈ zm_tb := (zm_in 335 rfl rfl)
set_option maxRecDepth 100000 in
theorem fiX5_15 : Cond.fieldLink RX5 15 (TX5 1).1 (TX5 1).2.1 (TX5 1).2.2.1 ∈ zm_tb := (zm_in 337 rfl rfl)
def mX6_init : zm_M := (RX6, yX6_init, cX6_init, 1, none)
set_option maxRecDepth 100000 in
theorem mbX6_init : zb_M mX6_init := ⟨(zm_in 244 rfl rfl), (zm_in 83 rfl rfl), (zm_in 243 rfl rfl), rfl, ⟨by decide +kernel, by decide +kernel, by decide +kernel⟩, rfl, by decide +kernel, rfl⟩
set_option maxRecDepth 100000 in
theorem obX6 : Cond.methodLink RX6 3 Lib.objectInit ∈ zm_tb := (zm_in 245 rfl rfl)
set_option maxRecDepth 100000 in
theorem fiX6_9 : Cond.fieldLink RX6 9 (TX6 0).1 (TX6 0).2.1 (TX6 0).2.2.1 ∈ zm_tb := (zm_in 246 rfl rfl)
set_option maxRecDepth 100000 in
theorem fiX6_15 : Cond.fieldLink RX6 15 (TX6 1).1 (TX6 1).2.1 (TX6 1).2.2.1 ∈ zm_tb := (zm_in 248 rfl rfl)
set_option maxRecDepth 100000 in
theorem fiX6_19 : Cond.fieldLink RX6 19 (TX6 2).1 (TX6 2).2.1 (TX6 2).2.2.1 ∈ zm_tb := (zm_in 251 rfl rfl)
set_option maxRecDepth 100000 in
theorem fiX6_22 : Cond.fieldLink RX6 22 (TX6 3).1 (TX6 3).2.1 (TX6 3).2.2.1 ∈ zm_tb := (zm_in 254 rfl rfl)
theorem zb_perm {M : zm_M} {R : Room} {l : Launch} {D : va_G} {p : Program} {e : Env} {s : State} {m : MethodId} {args : Array Value} {below : List Frame} {meth : Method} {c : Code} {A : Nat → Prop} {Z : State → Prop} {pc : Nat} {ls : List (Nat × Value)} {st : List Value} {ws ws' : va_W} {k n : Nat} (is : List Nat) (hn : va_nd is = true) (h1 : is.filterMap (fun i => ws[i]?) = ws') (h : is.map (fun i => ws[i]?) = ws'.map some) (kk : zb_T M R l D p e s m args below meth c A Z pc ls st ws' k n) : zb_T M R l D p e s m args below meth c A Z pc ls st ws k n := by
  intro H locs la hP hD hS hl
  exact kk H locs la (hP.sub is h1) (hD.sub is hn h) hS hl
theorem zb_g5 (ad : Nat → Nat) : (fun j : Nat => ([ad 4, ad 5, ad 6, ad 7, ad 8] : List Nat)[j]?) = fun j : Nat => (([4, 5, 6, 7, 8] : List Nat)[j]?).map ad := by
  funext j
  match j with
  | 0 => rfl
  | 1 => rfl
  | 2 => rfl
  | 3 => rfl
  | 4 => rfl
  | j + 5 => rfl
def zb_H0 : List zm_H := [.inr (0, [some 1, some 2, some 3, some 4, some 5, some 6, some 7, some 8, none, none, none, none]), .inl (.byte, 160, []), .inl (.byte, 160, []), .inl (.byte, 160, []), .inl (.short, 160, []), .inl (.int, 12, []), .inl (.int, 12, []), .inl (.int, 7, []), .inl (.int, 7, [])]
def zb_w0 : zm_S := (fun k => match k with
  | 0 => fun j => match j with | 9 => 5 | 10 => 31 | 11 => 999 | _ => 0
  | _ => fun _ => 0, fun _ _ => 0)
set_option maxRecDepth 100000 in
set_option maxHeartbeats 4000000 in
theorem k_X0_init : zb_C mX0_init { frames := 2, cells := 8, slots := 678, locals := 70 } 0 [.null, .null, .null, .null, .null, .null, .null, .null, .int 0, .int 0, .int 0, .int 0] zb_H0 zb_w0 := by
  refine zb_C.of mbX0_init (Nat.le_of_ble_eq_true rfl) ?_
  intro l D ca h0 p e s m args below meth c A Z hX hA hret
  refine zb_aload0 0 hX dX0_init_0 rfl ?_
  refine zb_obj hX dX0_init_1 obX0 zb_oi ⟨(Nat.le_of_ble_eq_true rfl), (Nat.le_of_ble_eq_true rfl)⟩ ?_
  refine zb_aload0 0 hX dX0_init_4 rfl ?_
  refine zb_sipush (v := (160 : Int32)) hX dX0_init_5 (by decide) ?_
  refine zb_newa (ty := .byte) (N := 160) (t0 := 2) (a0 := .inl (fun _ => 0)) hX hA dX0_init_8 rfl rfl (fun h => h) zb_abyte (fun _ => rfl) (by decide) (by decide) (by decide) (Nat.le_of_ble_eq_true rfl) (Nat.le_of_ble_eq_true rfl) (fun q1 => ?_)
  refine zb_ws (ws' := [(h0, .inr (0, [.null, .null, .null, .null, .null, .null, .null, .null, .int 0, .int 0, .int 0, .int 0])), (q1, .inl (ca .byte, 160, .inl (fun _ => 0)))]) rfl ?_
  refine zb_putF (q0 := 0) (j := 0) (ty := (tyX0 0)) hX dX0_init_10 clX0 fiX0_9 (Nat.le_of_ble_eq_true rfl) rfl rfl rfl (by decide +kernel) rfl rfl (Nat.le_of_ble_eq_true rfl) ?_
  refine zb_ws (ws' := [(h0, .inr (0, [.ref q1, .null, .null, .null, .null, .null, .null, .null, .int 0, .int 0, .int 0, .int 0])), (q1, .inl (ca .byte, 160, .inl (fun _ => 0)))]) rfl ?_
  refine zb_aload0 0 hX dX0_init_13 rfl ?_
  refine zb_sipush (v := (160 : Int32)) hX dX0_init_14 (by decide) ?_
  refine zb_newa (ty := .byte) (N := 160) (t0 := 2) (a0 := .inl (fun _ => 0)) hX hA dX0_init_17 rfl rfl (fun h => h) zb_abyte (fun _ => rfl) (by decide) (by decide) (by decide) (Nat.le_of_ble_eq_true rfl) (Nat.le_of_ble_eq_true rfl) (fun q2 => ?_)
  refine zb_ws (ws' := [(h0, .inr (0, [.ref q1, .null, .null, .null, .null, .null, .null, .null, .int 0, .int 0, .int 0, .int 0])), (q1, .inl (ca .byte, 160, .inl (fun _ => 0))), (q2, .inl (ca .byte, 160, .inl (fun _ => 0)))]) rfl ?_
  refine zb_putF (q0 := 0) (j := 1) (ty := (tyX0 1)) hX dX0_init_19 clX0 fiX0_15 (Nat.le_of_ble_eq_true rfl) rfl rfl rfl (by decide +kernel) rfl rfl (Nat.le_of_ble_eq_true rfl) ?_
  refine zb_ws (ws' := [(h0, .inr (0, [.ref q1, .ref q2, .null, .null, .null, .null, .null, .null, .int 0, .int 0, .int 0, .int 0])), (q1, .inl (ca .byte, 160, .inl (fun _ => 0))), (q2, .inl (ca .byte, 160, .inl (fun _ => 0)))]) rfl ?_
  refine zb_aload0 0 hX dX0_init_22 rfl ?_
  refine zb_sipush (v := (160 : Int32)) hX dX0_init_23 (by decide) ?_
  refine zb_newa (ty := .byte) (N := 160) (t0 := 2) (a0 := .inl (fun _ => 0)) hX hA dX0_init_26 rfl rfl (fun h => h) zb_abyte (fun _ => rfl) (by decide) (by decide) (by decide) (Nat.le_of_ble_eq_true rfl) (Nat.le_of_ble_eq_true rfl) (fun q3 => ?_)
  refine zb_ws (ws' := [(h0, .inr (0, [.ref q1, .ref q2, .null, .null, .null, .null, .null, .null, .int 0, .int 0, .int 0, .int 0])), (q1, .inl (ca .byte, 160, .inl (fun _ => 0))), (q2, .inl (ca .byte, 160, .inl (fun _ => 0))), (q3, .inl (ca .byte, 160, .inl (fun _ => 0)))]) rfl ?_
  refine zb_putF (q0 := 0) (j := 2) (ty := (tyX0 2)) hX dX0_init_28 clX0 fiX0_18 (Nat.le_of_ble_eq_true rfl) rfl rfl rfl (by decide +kernel) rfl rfl (Nat.le_of_ble_eq_true rfl) ?_
  refine zb_ws (ws' := [(h0, .inr (0, [.ref q1, .ref q2, .ref q3, .null, .null, .null, .null, .null, .int 0, .int 0, .int 0, .int 0])), (q1, .inl (ca .byte, 160, .inl (fun _ => 0))), (q2, .inl (ca .byte, 160, .inl (fun _ => 0))), (q3, .inl (ca .byte, 160, .inl (fun _ => 0)))]) rfl ?_
  refine zb_aload0 0 hX dX0_init_31 rfl ?_
  refine zb_sipush (v := (160 : Int32)) hX dX0_init_32 (by decide) ?_
  refine zb_newa (ty := .short) (N := 160) (t0 := 3) (a0 := .inl (fun _ => 0)) hX hA dX0_init_35 rfl rfl (fun h => h) zb_ashort (fun _ => rfl) (by decide) (by decide) (by decide) (Nat.le_of_ble_eq_true rfl) (Nat.le_of_ble_eq_true rfl) (fun q4 => ?_)
  refine zb_ws (ws' := [(h0, .inr (0, [.ref q1, .ref q2, .ref q3, .null, .null, .null, .null, .null, .int 0, .int 0, .int 0, .int 0])), (q1, .inl (ca .byte, 160, .inl (fun _ => 0))), (q2, .inl (ca .byte, 160, .inl (fun _ => 0))), (q3, .inl (ca .byte, 160, .inl (fun _ => 0))), (q4, .inl (ca .short, 160, .inl (fun _ => 0)))]) rfl ?_
  refine zb_putF (q0 := 0) (j := 3) (ty := (tyX0 3)) hX dX0_init_37 clX0 fiX0_21 (Nat.le_of_ble_eq_true rfl) rfl rfl rfl (by decide +kernel) rfl rfl (Nat.le_of_ble_eq_true rfl) ?_
  refine zb_ws (ws' := [(h0, .inr (0, [.ref q1, .ref q2, .ref q3, .ref q4, .null, .null, .null, .null, .int 0, .int 0, .int 0, .int 0])), (q1, .inl (ca .byte, 160, .inl (fun _ => 0))), (q2, .inl (ca .byte, 160, .inl (fun _ => 0))), (q3, .inl (ca .byte, 160, .inl (fun _ => 0))), (q4, .inl (ca .short, 160, .inl (fun _ => 0)))]) rfl ?_
  refine zb_aload0 0 hX dX0_init_40 rfl ?_
  refine zb_bipush (v := (12 : Int32)) hX dX0_init_41 (by decide) ?_
  refine zb_newa (ty := .int) (N := 12) (t0 := 0) (a0 := .inl (fun _ => 0)) hX hA dX0_init_43 rfl rfl (fun h => h) zb_aint (fun _ => rfl) (by decide) (by decide) (by decide) (Nat.le_of_ble_eq_true rfl) (Nat.le_of_ble_eq_true rfl) (fun q5 => ?_)
  refine zb_ws (ws' := [(h0, .inr (0, [.ref q1, .ref q2, .ref q3, .ref q4, .null, .null, .null, .null, .int 0, .int 0, .int 0, .int 0])), (q1, .inl (ca .byte, 160, .inl (fun _ => 0))), (q2, .inl (ca .byte, 160, .inl (fun _ => 0))), (q3, .inl (ca .byte, 160, .inl (fun _ => 0))), (q4, .inl (ca .short, 160, .inl (fun _ => 0))), (q5, .inl (ca .int, 12, .inl (fun _ => 0)))]) rfl ?_
  refine zb_putF (q0 := 0) (j := 4) (ty := (tyX0 4)) hX dX0_init_45 clX0 fiX0_25 (Nat.le_of_ble_eq_true rfl) rfl rfl rfl (by decide +kernel) rfl rfl (Nat.le_of_ble_eq_true rfl) ?_
  refine zb_ws (ws' := [(h0, .inr (0, [.ref q1, .ref q2, .ref q3, .ref q4, .ref q5, .null, .null, .null, .int 0, .int 0, .int 0, .int 0])), (q1, .inl (ca .byte, 160, .inl (fun _ => 0))), (q2, .inl (ca .byte, 160, .inl (fun _ => 0))), (q3, .inl (ca .byte, 160, .inl (fun _ => 0))), (q4, .inl (ca .short, 160, .inl (fun _ => 0))), (q5, .inl (ca .int, 12, .inl (fun _ => 0)))]) rfl ?_
  refine zb_aload0 0 hX dX0_init_48 rfl ?_
  refine zb_bipush (v := (12 : Int32)) hX dX0_init_49 (by decide) ?_
  refine zb_newa (ty := .int) (N := 12) (t0 := 0) (a0 := .inl (fun _ => 0)) hX hA dX0_init_51 rfl rfl (fun h => h) zb_aint (fun _ => rfl) (by decide) (by decide) (by decide) (Nat.le_of_ble_eq_true rfl) (Nat.le_of_ble_eq_true rfl) (fun q6 => ?_)
  refine zb_ws (ws' := [(h0, .inr (0, [.ref q1, .ref q2, .ref q3, .ref q4, .ref q5, .null, .null, .null, .int 0, .int 0, .int 0, .int 0])), (q1, .inl (ca .byte, 160, .inl (fun _ => 0))), (q2, .inl (ca .byte, 160, .inl (fun _ => 0))), (q3, .inl (ca .byte, 160, .inl (fun _ => 0))), (q4, .inl (ca .short, 160, .inl (fun _ => 0))), (q5, .inl (ca .int, 12, .inl (fun _ => 0))), (q6, .inl (ca .int, 12, .inl (fun _ => 0)))]) rfl ?_
  refine zb_putF (q0 := 0) (j := 5) (ty := (tyX0 5)) hX dX0_init_53 clX0 fiX0_29 (Nat.le_of_ble_eq_true rfl) rfl rfl rfl (by decide +kernel) rfl rfl (Nat.le_of_ble_eq_true rfl) ?_
  refine zb_ws (ws' := [(h0, .inr (0, [.ref q1, .ref q2, .ref q3, .ref q4, .ref q5, .ref q6, .null, .null, .int 0, .int 0, .int 0, .int 0])), (q1, .inl (ca .byte, 160, .inl (fun _ => 0))), (q2, .inl (ca .byte, 160, .inl (fun _ => 0))), (q3, .inl (ca .byte, 160, .inl (fun _ => 0))), (q4, .inl (ca .short, 160, .inl (fun _ => 0))), (q5, .inl (ca .int, 12, .inl (fun _ => 0))), (q6, .inl (ca .int, 12, .inl (fun _ => 0)))]) rfl ?_
  refine zb_aload0 0 hX dX0_init_56 rfl ?_
  refine zb_bipush (v := (7 : Int32)) hX dX0_init_57 (by decide) ?_
  refine zb_newa (ty := .int) (N := 7) (t0 := 0) (a0 := .inl (fun _ => 0)) hX hA dX0_init_59 rfl rfl (fun h => h) zb_aint (fun _ => rfl) (by decide) (by decide) (by decide) (Nat.le_of_ble_eq_true rfl) (Nat.le_of_ble_eq_true rfl) (fun q7 => ?_)
  refine zb_ws (ws' := [(h0, .inr (0, [.ref q1, .ref q2, .ref q3, .ref q4, .ref q5, .ref q6, .null, .null, .int 0, .int 0, .int 0, .int 0])), (q1, .inl (ca .byte, 160, .inl (fun _ => 0))), (q2, .inl (ca .byte, 160, .inl (fun _ => 0))), (q3, .inl (ca .byte, 160, .inl (fun _ => 0))), (q4, .inl (ca .short, 160, .inl (fun _ => 0))), (q5, .inl (ca .int, 12, .inl (fun _ => 0))), (q6, .inl (ca .int, 12, .inl (fun _ => 0))), (q7, .inl (ca .int, 7, .inl (fun _ => 0)))]) rfl ?_
  refine zb_putF (q0 := 0) (j := 6) (ty := (tyX0 6)) hX dX0_init_61 clX0 fiX0_32 (Nat.le_of_ble_eq_true rfl) rfl rfl rfl (by decide +kernel) rfl rfl (Nat.le_of_ble_eq_true rfl) ?_
  refine zb_ws (ws' := [(h0, .inr (0, [.ref q1, .ref q2, .ref q3, .ref q4, .ref q5, .ref q6, .ref q7, .null, .int 0, .int 0, .int 0, .int 0])), (q1, .inl (ca .byte, 160, .inl (fun _ => 0))), (q2, .inl (ca .byte, 160, .inl (fun _ => 0))), (q3, .inl (ca .byte, 160, .inl (fun _ => 0))), (q4, .inl (ca .short, 160, .inl (fun _ => 0))), (q5, .inl (ca .int, 12, .inl (fun _ => 0))), (q6, .inl (ca .int, 12, .inl (fun _ => 0))), (q7, .inl (ca .int, 7, .inl (fun _ => 0)))]) rfl ?_
  refine zb_aload0 0 hX dX0_init_64 rfl ?_
  refine zb_bipush (v := (7 : Int32)) hX dX0_init_65 (by decide) ?_
  refine zb_newa (ty := .int) (N := 7) (t0 := 0) (a0 := .inl (fun _ => 0)) hX hA dX0_init_67 rfl rfl (fun h => h) zb_aint (fun _ => rfl) (by decide) (by decide) (by decide) (Nat.le_of_ble_eq_true rfl) (Nat.le_of_ble_eq_true rfl) (fun q8 => ?_)
  refine zb_ws (ws' := [(h0, .inr (0, [.ref q1, .ref q2, .ref q3, .ref q4, .ref q5, .ref q6, .ref q7, .null, .int 0, .int 0, .int 0, .int 0])), (q1, .inl (ca .byte, 160, .inl (fun _ => 0))), (q2, .inl (ca .byte, 160, .inl (fun _ => 0))), (q3, .inl (ca .byte, 160, .inl (fun _ => 0))), (q4, .inl (ca .short, 160, .inl (fun _ => 0))), (q5, .inl (ca .int, 12, .inl (fun _ => 0))), (q6, .inl (ca .int, 12, .inl (fun _ => 0))), (q7, .inl (ca .int, 7, .inl (fun _ => 0))), (q8, .inl (ca .int, 7, .inl (fun _ => 0)))]) rfl ?_
  refine zb_putF (q0 := 0) (j := 7) (ty := (tyX0 7)) hX dX0_init_69 clX0 fiX0_35 (Nat.le_of_ble_eq_true rfl) rfl rfl rfl (by decide +kernel) rfl rfl (Nat.le_of_ble_eq_true rfl) ?_
  refine zb_ws (ws' := [(h0, .inr (0, [.ref q1, .ref q2, .ref q3, .ref q4, .ref q5, .ref q6, .ref q7, .ref q8, .int 0, .int 0, .int 0, .int 0])), (q1, .inl (ca .byte, 160, .inl (fun _ => 0))), (q2, .inl (ca .byte, 160, .inl (fun _ => 0))), (q3, .inl (ca .byte, 160, .inl (fun _ => 0))), (q4, .inl (ca .short, 160, .inl (fun _ => 0))), (q5, .inl (ca .int, 12, .inl (fun _ => 0))), (q6, .inl (ca .int, 12, .inl (fun _ => 0))), (q7, .inl (ca .int, 7, .inl (fun _ => 0))), (q8, .inl (ca .int, 7, .inl (fun _ => 0)))]) rfl ?_
  refine zb_aload0 0 hX dX0_init_72 rfl ?_
  refine zb_iconst (v := (5 : Int32)) hX dX0_init_73 (by decide) ?_
  refine zb_put (q0 := 0) (j := 9) (ty := .int) hX dX0_init_74 clX0 fiX0_38 (Nat.le_of_ble_eq_true rfl) rfl rfl (by decide +kernel) rfl rfl (Nat.le_of_ble_eq_true rfl) ?_
  refine zb_ws (ws' := [(h0, .inr (0, [.ref q1, .ref q2, .ref q3, .ref q4, .ref q5, .ref q6, .ref q7, .ref q8, .int 0, .int (5 : Int32), .int 0, .int 0])), (q1, .inl (ca .byte, 160, .inl (fun _ => 0))), (q2, .inl (ca .byte, 160, .inl (fun _ => 0))), (q3, .inl (ca .byte, 160, .inl (fun _ => 0))), (q4, .inl (ca .short, 160, .inl (fun _ => 0))), (q5, .inl (ca .int, 12, .inl (fun _ => 0))), (q6, .inl (ca .int, 12, .inl (fun _ => 0))), (q7, .inl (ca .int, 7, .inl (fun _ => 0))), (q8, .inl (ca .int, 7, .inl (fun _ => 0)))]) rfl ?_
  refine zb_aload0 0 hX dX0_init_77 rfl ?_
  refine zb_bipush (v := (31 : Int32)) hX dX0_init_78 (by decide) ?_
  refine zb_put (q0 := 0) (j := 10) (ty := .int) hX dX0_init_80 clX0 fiX0_42 (Nat.le_of_ble_eq_true rfl) rfl rfl (by decide +kernel) rfl rfl (Nat.le_of_ble_eq_true rfl) ?_
  refine zb_ws (ws' := [(h0, .inr (0, [.ref q1, .ref q2, .ref q3, .ref q4, .ref q5, .ref q6, .ref q7, .ref q8, .int 0, .int (5 : Int32), .int (31 : Int32), .int 0])), (q1, .inl (ca .byte, 160, .inl (fun _ => 0))), (q2, .inl (ca .byte, 160, .inl (fun _ => 0))), (q3, .inl (ca .byte, 160, .inl (fun _ => 0))), (q4, .inl (ca .short, 160, .inl (fun _ => 0))), (q5, .inl (ca .int, 12, .inl (fun _ => 0))), (q6, .inl (ca .int, 12, .inl (fun _ => 0))), (q7, .inl (ca .int, 7, .inl (fun _ => 0))), (q8, .inl (ca .int, 7, .inl (fun _ => 0)))]) rfl ?_
  refine zb_aload0 0 hX dX0_init_83 rfl ?_
  refine zb_sipush (v := (999 : Int32)) hX dX0_init_84 (by decide) ?_
  refine zb_put (q0 := 0) (j := 11) (ty := .int) hX dX0_init_87 clX0 fiX0_45 (Nat.le_of_ble_eq_true rfl) rfl rfl (by decide +kernel) rfl rfl (Nat.le_of_ble_eq_true rfl) ?_
  refine zb_ws (ws' := [(h0, .inr (0, [.ref q1, .ref q2, .ref q3, .ref q4, .ref q5, .ref q6, .ref q7, .ref q8, .int 0, .int (5 : Int32), .int (31 : Int32), .int (999 : Int32)])), (q1, .inl (ca .byte, 160, .inl (fun _ => 0))), (q2, .inl (ca .byte, 160, .inl (fun _ => 0))), (q3, .inl (ca .byte, 160, .inl (fun _ => 0))), (q4, .inl (ca .short, 160, .inl (fun _ => 0))), (q5, .inl (ca .int, 12, .inl (fun _ => 0))), (q6, .inl (ca .int, 12, .inl (fun _ => 0))), (q7, .inl (ca .int, 7, .inl (fun _ => 0))), (q8, .inl (ca .int, 7, .inl (fun _ => 0)))]) rfl ?_
  refine zb_ws (ws' := zm_W zb_H0 ca (fun k => ([h0, q1, q2, q3, q4, q5, q6, q7, q8] : List Nat).getD k 0) zb_w0) rfl ?_
  exact zb_widen (Nat.le_of_ble_eq_true rfl) (Nat.le_of_ble_eq_true rfl) (hret 90 _ (fun k => ([h0, q1, q2, q3, q4, q5, q6, q7, q8] : List Nat).getD k 0) dX0_init_90 rfl)
def zb_H1 : List zm_H := [.inr (1, [some 1, none, none]), .inl (.int, 7, [])]
def zb_w1 : zm_S := (fun k => match k with
  | 0 => fun _ => 0
  | _ => fun _ => 0, fun _ _ => 0)
set_option maxRecDepth 100000 in
set_option maxHeartbeats 4000000 in
theorem k_X1_init : zb_C mX1_init { frames := 2, cells := 1, slots := 7, locals := 70 } 1 [.null, .int 0, .int 0] zb_H1 zb_w1 := by
  refine zb_C.of mbX1_init (Nat.le_of_ble_eq_true rfl) ?_
  intro l D ca h0 p e s m args below meth c A Z hX hA hret
  refine zb_aload0 0 hX dX1_init_0 rfl ?_
  refine zb_obj hX dX1_init_1 obX1 zb_oi ⟨(Nat.le_of_ble_eq_true rfl), (Nat.le_of_ble_eq_true rfl)⟩ ?_
  refine zb_aload0 0 hX dX1_init_4 rfl ?_
  refine zb_bipush (v := (7 : Int32)) hX dX1_init_5 (by decide) ?_
  refine zb_newa (ty := .int) (N := 7) (t0 := 0) (a0 := .inl (fun _ => 0)) hX hA dX1_init_7 rfl rfl (fun h => h) zb_aint (fun _ => rfl) (by decide) (by decide) (by decide) (Nat.le_of_ble_eq_true rfl) (Nat.le_of_ble_eq_true rfl) (fun q1 => ?_)
  refine zb_ws (ws' := [(h0, .inr (1, [.null, .int 0, .int 0])), (q1, .inl (ca .int, 7, .inl (fun _ => 0)))]) rfl ?_
  refine zb_putF (q0 := 0) (j := 0) (ty := (tyX1 0)) hX dX1_init_9 clX1 fiX1_9 (Nat.le_of_ble_eq_true rfl) rfl rfl rfl (by decide +kernel) rfl rfl (Nat.le_of_ble_eq_true rfl) ?_
  refine zb_ws (ws' := [(h0, .inr (1, [.ref q1, .int 0, .int 0])), (q1, .inl (ca .int, 7, .inl (fun _ => 0)))]) rfl ?_
  refine zb_ws (ws' := zm_W zb_H1 ca (fun k => ([h0, q1] : List Nat).getD k 0) zb_w1) rfl ?_
  exact zb_widen (Nat.le_of_ble_eq_true rfl) (Nat.le_of_ble_eq_true rfl) (hret 12 _ (fun k => ([h0, q1] : List Nat).getD k 0) dX1_init_12 rfl)
def zb_H2 : List zm_H := [.inr (2, [some 1, some 2, some 3, none, none, none]), .inl (.int, 60, []), .inl (.int, 7, []), .inl (.int, 7, [])]
def zb_w2 : zm_S := (fun k => match k with
  | 0 => fun j => match j with | 5 => -1 | _ => 0
  | _ => fun _ => 0, fun _ _ => 0)
set_option maxRecDepth 100000 in
set_option maxHeartbeats 4000000 in
theorem k_X2_init : zb_C mX2_init { frames := 2, cells := 3, slots := 74, locals := 70 } 2 [.null, .null, .null, .int 0, .int 0, .int 0] zb_H2 zb_w2 := by
  refine zb_C.of mbX2_init (Nat.le_of_ble_eq_true rfl) ?_
  intro l D ca h0 p e s m args below meth c A Z hX hA hret
  refine zb_aload0 0 hX dX2_init_0 rfl ?_
  refine zb_obj hX dX2_init_1 obX2 zb_oi ⟨(Nat.le_of_ble_eq_true rfl), (Nat.le_of_ble_eq_true rfl)⟩ ?_
  refine zb_aload0 0 hX dX2_init_4 rfl ?_
  refine zb_bipush (v := (60 : Int32)) hX dX2_init_5 (by decide) ?_
  refine zb_newa (ty := .int) (N := 60) (t0 := 0) (a0 := .inl (fun _ => 0)) hX hA dX2_init_7 rfl rfl (fun h => h) zb_aint (fun _ => rfl) (by decide) (by decide) (by decide) (Nat.le_of_ble_eq_true rfl) (Nat.le_of_ble_eq_true rfl) (fun q1 => ?_)
  refine zb_ws (ws' := [(h0, .inr (2, [.null, .null, .null, .int 0, .int 0, .int 0])), (q1, .inl (ca .int, 60, .inl (fun _ => 0)))]) rfl ?_
  refine zb_putF (q0 := 0) (j := 0) (ty := (tyX2 0)) hX dX2_init_9 clX2 fiX2_9 (Nat.le_of_ble_eq_true rfl) rfl rfl rfl (by decide +kernel) rfl rfl (Nat.le_of_ble_eq_true rfl) ?_
  refine zb_ws (ws' := [(h0, .inr (2, [.ref q1, .null, .null, .int 0, .int 0, .int 0])), (q1, .inl (ca .int, 60, .inl (fun _ => 0)))]) rfl ?_
  refine zb_aload0 0 hX dX2_init_12 rfl ?_
  refine zb_bipush (v := (7 : Int32)) hX dX2_init_13 (by decide) ?_
  refine zb_newa (ty := .int) (N := 7) (t0 := 0) (a0 := .inl (fun _ => 0)) hX hA dX2_init_15 rfl rfl (fun h => h) zb_aint (fun _ => rfl) (by decide) (by decide) (by decide) (Nat.le_of_ble_eq_true rfl) (Nat.le_of_ble_eq_true rfl) (fun q2 => ?_)
  refine zb_ws (ws' := [(h0, .inr (2, [.ref q1, .null, .null, .int 0, .int 0, .int 0])), (q1, .inl (ca .int, 60, .inl (fun _ => 0))), (q2, .inl (ca .int, 7, .inl (fun _ => 0)))]) rfl ?_
  refine zb_putF (q0 := 0) (j := 1) (ty := (tyX2 1)) hX dX2_init_17 clX2 fiX2_15 (Nat.le_of_ble_eq_true rfl) rfl rfl rfl (by decide +kernel) rfl rfl (Nat.le_of_ble_eq_true rfl) ?_
  refine zb_ws (ws' := [(h0, .inr (2, [.ref q1, .ref q2, .null, .int 0, .int 0, .int 0])), (q1, .inl (ca .int, 60, .inl (fun _ => 0))), (q2, .inl (ca .int, 7, .inl (fun _ => 0)))]) rfl ?_
  refine zb_aload0 0 hX dX2_init_20 rfl ?_
  refine zb_bipush (v := (7 : Int32)) hX dX2_init_21 (by decide) ?_
  refine zb_newa (ty := .int) (N := 7) (t0 := 0) (a0 := .inl (fun _ => 0)) hX hA dX2_init_23 rfl rfl (fun h => h) zb_aint (fun _ => rfl) (by decide) (by decide) (by decide) (Nat.le_of_ble_eq_true rfl) (Nat.le_of_ble_eq_true rfl) (fun q3 => ?_)
  refine zb_ws (ws' := [(h0, .inr (2, [.ref q1, .ref q2, .null, .int 0, .int 0, .int 0])), (q1, .inl (ca .int, 60, .inl (fun _ => 0))), (q2, .inl (ca .int, 7, .inl (fun _ => 0))), (q3, .inl (ca .int, 7, .inl (fun _ => 0)))]) rfl ?_
  refine zb_putF (q0 := 0) (j := 2) (ty := (tyX2 2)) hX dX2_init_25 clX2 fiX2_18 (Nat.le_of_ble_eq_true rfl) rfl rfl rfl (by decide +kernel) rfl rfl (Nat.le_of_ble_eq_true rfl) ?_
  refine zb_ws (ws' := [(h0, .inr (2, [.ref q1, .ref q2, .ref q3, .int 0, .int 0, .int 0])), (q1, .inl (ca .int, 60, .inl (fun _ => 0))), (q2, .inl (ca .int, 7, .inl (fun _ => 0))), (q3, .inl (ca .int, 7, .inl (fun _ => 0)))]) rfl ?_
  refine zb_aload0 0 hX dX2_init_28 rfl ?_
  refine zb_iconst (v := (-1 : Int32)) hX dX2_init_29 (by decide) ?_
  refine zb_put (q0 := 0) (j := 5) (ty := .int) hX dX2_init_30 clX2 fiX2_21 (Nat.le_of_ble_eq_true rfl) rfl rfl (by decide +kernel) rfl rfl (Nat.le_of_ble_eq_true rfl) ?_
  refine zb_ws (ws' := [(h0, .inr (2, [.ref q1, .ref q2, .ref q3, .int 0, .int 0, .int (-1 : Int32)])), (q1, .inl (ca .int, 60, .inl (fun _ => 0))), (q2, .inl (ca .int, 7, .inl (fun _ => 0))), (q3, .inl (ca .int, 7, .inl (fun _ => 0)))]) rfl ?_
  refine zb_ws (ws' := zm_W zb_H2 ca (fun k => ([h0, q1, q2, q3] : List Nat).getD k 0) zb_w2) rfl ?_
  exact zb_widen (Nat.le_of_ble_eq_true rfl) (Nat.le_of_ble_eq_true rfl) (hret 33 _ (fun k => ([h0, q1, q2, q3] : List Nat).getD k 0) dX2_init_33 rfl)
def zb_H3 : List zm_H := [.inr (3, [some 1, some 2, some 3, none, none, none]), .inl ((.array .int), 5, [4, 5, 6, 7, 8]), .inl (.int, 4, []), .inl (.int, 4, []), .inl (.int, 12, []), .inl (.int, 12, []), .inl (.int, 12, []), .inl (.int, 12, []), .inl (.int, 12, [])]
def zb_w3 : zm_S := (fun k => match k with
  | 0 => fun _ => 0
  | _ => fun _ => 0, fun _ _ => 0)
set_option maxRecDepth 100000 in
set_option maxHeartbeats 4000000 in
theorem k_X3_init : zb_C mX3_init { frames := 2, cells := 8, slots := 73, locals := 70 } 3 [.null, .null, .null, .int 0, .int 0, .int 0] zb_H3 zb_w3 := by
  refine zb_C.of mbX3_init (Nat.le_of_ble_eq_true rfl) ?_
  intro l D ca h0 p e s m args below meth c A Z hX hA hret
  refine zb_aload0 0 hX dX3_init_0 rfl ?_
  refine zb_obj hX dX3_init_1 obX3 zb_oi ⟨(Nat.le_of_ble_eq_true rfl), (Nat.le_of_ble_eq_true rfl)⟩ ?_
  refine zb_aload0 0 hX dX3_init_4 rfl ?_
  refine zb_iconst (v := (5 : Int32)) hX dX3_init_5 (by decide) ?_
  refine zb_bipush (v := (12 : Int32)) hX dX3_init_6 (by decide) ?_
  refine zb_multi hX hA dX3_init_8 (zm_in 305 rfl rfl) zb_aint (Nat.le_of_ble_eq_true rfl) (Nat.le_of_ble_eq_true rfl) (fun q1 q2 q3 q4 q5 q6 => ?_)
  refine zb_ws (ws' := [(h0, .inr (3, [.null, .null, .null, .int 0, .int 0, .int 0])), (q1, .inl (ca (.array .int), 5, .inr (.inr (.inr (.inr (fun j => ([q2, q3, q4, q5, q6] : List Nat)[j]?)))))), (q2, .inl (ca .int, 12, .inl (fun _ => 0))), (q3, .inl (ca .int, 12, .inl (fun _ => 0))), (q4, .inl (ca .int, 12, .inl (fun _ => 0))), (q5, .inl (ca .int, 12, .inl (fun _ => 0))), (q6, .inl (ca .int, 12, .inl (fun _ => 0)))]) rfl ?_
  refine zb_putF (q0 := 0) (j := 0) (ty := (tyX3 0)) hX dX3_init_12 clX3 fiX3_11 (Nat.le_of_ble_eq_true rfl) rfl rfl rfl (by decide +kernel) rfl rfl (Nat.le_of_ble_eq_true rfl) ?_
  refine zb_ws (ws' := [(h0, .inr (3, [.ref q1, .null, .null, .int 0, .int 0, .int 0])), (q1, .inl (ca (.array .int), 5, .inr (.inr (.inr (.inr (fun j => ([q2, q3, q4, q5, q6] : List Nat)[j]?)))))), (q2, .inl (ca .int, 12, .inl (fun _ => 0))), (q3, .inl (ca .int, 12, .inl (fun _ => 0))), (q4, .inl (ca .int, 12, .inl (fun _ => 0))), (q5, .inl (ca .int, 12, .inl (fun _ => 0))), (q6, .inl (ca .int, 12, .inl (fun _ => 0)))]) rfl ?_
  refine zb_aload0 0 hX dX3_init_15 rfl ?_
  refine zb_iconst (v := (4 : Int32)) hX dX3_init_16 (by decide) ?_
  refine zb_newa (ty := .int) (N := 4) (t0 := 0) (a0 := .inl (fun _ => 0)) hX hA dX3_init_17 rfl rfl (fun h => h) zb_aint (fun _ => rfl) (by decide) (by decide) (by decide) (Nat.le_of_ble_eq_true rfl) (Nat.le_of_ble_eq_true rfl) (fun q7 => ?_)
  refine zb_ws (ws' := [(h0, .inr (3, [.ref q1, .null, .null, .int 0, .int 0, .int 0])), (q1, .inl (ca (.array .int), 5, .inr (.inr (.inr (.inr (fun j => ([q2, q3, q4, q5, q6] : List Nat)[j]?)))))), (q2, .inl (ca .int, 12, .inl (fun _ => 0))), (q3, .inl (ca .int, 12, .inl (fun _ => 0))), (q4, .inl (ca .int, 12, .inl (fun _ => 0))), (q5, .inl (ca .int, 12, .inl (fun _ => 0))), (q6, .inl (ca .int, 12, .inl (fun _ => 0))), (q7, .inl (ca .int, 4, .inl (fun _ => 0)))]) rfl ?_
  refine zb_putF (q0 := 0) (j := 1) (ty := (tyX3 1)) hX dX3_init_19 clX3 fiX3_16 (Nat.le_of_ble_eq_true rfl) rfl rfl rfl (by decide +kernel) rfl rfl (Nat.le_of_ble_eq_true rfl) ?_
  refine zb_ws (ws' := [(h0, .inr (3, [.ref q1, .ref q7, .null, .int 0, .int 0, .int 0])), (q1, .inl (ca (.array .int), 5, .inr (.inr (.inr (.inr (fun j => ([q2, q3, q4, q5, q6] : List Nat)[j]?)))))), (q2, .inl (ca .int, 12, .inl (fun _ => 0))), (q3, .inl (ca .int, 12, .inl (fun _ => 0))), (q4, .inl (ca .int, 12, .inl (fun _ => 0))), (q5, .inl (ca .int, 12, .inl (fun _ => 0))), (q6, .inl (ca .int, 12, .inl (fun _ => 0))), (q7, .inl (ca .int, 4, .inl (fun _ => 0)))]) rfl ?_
  refine zb_aload0 0 hX dX3_init_22 rfl ?_
  refine zb_iconst (v := (4 : Int32)) hX dX3_init_23 (by decide) ?_
  refine zb_newa (ty := .int) (N := 4) (t0 := 0) (a0 := .inl (fun _ => 0)) hX hA dX3_init_24 rfl rfl (fun h => h) zb_aint (fun _ => rfl) (by decide) (by decide) (by decide) (Nat.le_of_ble_eq_true rfl) (Nat.le_of_ble_eq_true rfl) (fun q8 => ?_)
  refine zb_ws (ws' := [(h0, .inr (3, [.ref q1, .ref q7, .null, .int 0, .int 0, .int 0])), (q1, .inl (ca (.array .int), 5, .inr (.inr (.inr (.inr (fun j => ([q2, q3, q4, q5, q6] : List Nat)[j]?)))))), (q2, .inl (ca .int, 12, .inl (fun _ => 0))), (q3, .inl (ca .int, 12, .inl (fun _ => 0))), (q4, .inl (ca .int, 12, .inl (fun _ => 0))), (q5, .inl (ca .int, 12, .inl (fun _ => 0))), (q6, .inl (ca .int, 12, .inl (fun _ => 0))), (q7, .inl (ca .int, 4, .inl (fun _ => 0))), (q8, .inl (ca .int, 4, .inl (fun _ => 0)))]) rfl ?_
  refine zb_putF (q0 := 0) (j := 2) (ty := (tyX3 2)) hX dX3_init_26 clX3 fiX3_20 (Nat.le_of_ble_eq_true rfl) rfl rfl rfl (by decide +kernel) rfl rfl (Nat.le_of_ble_eq_true rfl) ?_
  refine zb_ws (ws' := [(h0, .inr (3, [.ref q1, .ref q7, .ref q8, .int 0, .int 0, .int 0])), (q1, .inl (ca (.array .int), 5, .inr (.inr (.inr (.inr (fun j => ([q2, q3, q4, q5, q6] : List Nat)[j]?)))))), (q2, .inl (ca .int, 12, .inl (fun _ => 0))), (q3, .inl (ca .int, 12, .inl (fun _ => 0))), (q4, .inl (ca .int, 12, .inl (fun _ => 0))), (q5, .inl (ca .int, 12, .inl (fun _ => 0))), (q6, .inl (ca .int, 12, .inl (fun _ => 0))), (q7, .inl (ca .int, 4, .inl (fun _ => 0))), (q8, .inl (ca .int, 4, .inl (fun _ => 0)))]) rfl ?_
  refine zb_perm (ws' := [(h0, .inr (3, [.ref q1, .ref q7, .ref q8, .int 0, .int 0, .int 0])), (q1, .inl (ca (.array .int), 5, .inr (.inr (.inr (.inr (fun j => ([q2, q3, q4, q5, q6] : List Nat)[j]?)))))), (q7, .inl (ca .int, 4, .inl (fun _ => 0))), (q8, .inl (ca .int, 4, .inl (fun _ => 0))), (q2, .inl (ca .int, 12, .inl (fun _ => 0))), (q3, .inl (ca .int, 12, .inl (fun _ => 0))), (q4, .inl (ca .int, 12, .inl (fun _ => 0))), (q5, .inl (ca .int, 12, .inl (fun _ => 0))), (q6, .inl (ca .int, 12, .inl (fun _ => 0)))]) [0, 1, 7, 8, 2, 3, 4, 5, 6] (by decide) rfl rfl ?_
  refine zb_ws (ws' := zm_W zb_H3 ca (fun k => ([h0, q1, q7, q8, q2, q3, q4, q5, q6] : List Nat).getD k 0) zb_w3) (congrArg (fun (FF : Nat → Option Nat) => ([(h0, .inr (3, [.ref q1, .ref q7, .ref q8, .int 0, .int 0, .int 0])), (q1, .inl (ca (.array .int), 5, .inr (.inr (.inr (.inr FF))))), (q7, .inl (ca .int, 4, .inl (fun _ => 0))), (q8, .inl (ca .int, 4, .inl (fun _ => 0))), (q2, .inl (ca .int, 12, .inl (fun _ => 0))), (q3, .inl (ca .int, 12, .inl (fun _ => 0))), (q4, .inl (ca .int, 12, .inl (fun _ => 0))), (q5, .inl (ca .int, 12, .inl (fun _ => 0))), (q6, .inl (ca .int, 12, .inl (fun _ => 0)))] : va_W)) (zb_g5 (fun k => ([h0, q1, q7, q8, q2, q3, q4, q5, q6] : List Nat).getD k 0))) ?_
  exact zb_widen (Nat.le_of_ble_eq_true rfl) (Nat.le_of_ble_eq_true rfl) (hret 29 _ (fun k => ([h0, q1, q7, q8, q2, q3, q4, q5, q6] : List Nat).getD k 0) dX3_init_29 rfl)
def zb_H4 : List zm_H := [.inr (4, [some 1, some 2, some 3, some 4, some 5, some 6, some 7, none, none, none, none, none, none, none, none, none]), .inl (.long, 7, []), .inl (.long, 7, []), .inl (.long, 128, []), .inl (.long, 128, []), .inl (.int, 7, []), .inl (.int, 7, []), .inl (.int, 14, [])]
def zb_w4 : zm_S := (fun k => match k with
  | 0 => fun _ => 0
  | _ => fun _ => 0, fun _ _ => 0)
set_option maxRecDepth 100000 in
set_option maxHeartbeats 4000000 in
theorem k_X4_init : zb_C mX4_init { frames := 2, cells := 7, slots := 298, locals := 70 } 4 [.null, .null, .null, .null, .null, .null, .null, .int 0, .int 0, .int 0, .int 0, .int 0, .int 0, .int 0, .int 0, .int 0] zb_H4 zb_w4 := by
  refine zb_C.of mbX4_init (Nat.le_of_ble_eq_true rfl) ?_
  intro l D ca h0 p e s m args below meth c A Z hX hA hret
  refine zb_aload0 0 hX dX4_init_0 rfl ?_
  refine zb_obj hX dX4_init_1 obX4 zb_oi ⟨(Nat.le_of_ble_eq_true rfl), (Nat.le_of_ble_eq_true rfl)⟩ ?_
  refine zb_aload0 0 hX dX4_init_4 rfl ?_
  refine zb_bipush (v := (7 : Int32)) hX dX4_init_5 (by decide) ?_
  refine zb_newa (ty := .long) (N := 7) (t0 := 1) (a0 := .inr (.inl (fun _ => 0))) hX hA dX4_init_7 rfl rfl (fun h => h) zb_along (fun _ => rfl) (by decide) (by decide) (by decide) (Nat.le_of_ble_eq_true rfl) (Nat.le_of_ble_eq_true rfl) (fun q1 => ?_)
  refine zb_ws (ws' := [(h0, .inr (4, [.null, .null, .null, .null, .null, .null, .null, .int 0, .int 0, .int 0, .int 0, .int 0, .int 0, .int 0, .int 0, .int 0])), (q1, .inl (ca .long, 7, .inr (.inl (fun _ => 0))))]) rfl ?_
  refine zb_putF (q0 := 0) (j := 0) (ty := (tyX4 0)) hX dX4_init_9 clX4 fiX4_9 (Nat.le_of_ble_eq_true rfl) rfl rfl rfl (by decide +kernel) rfl rfl (Nat.le_of_ble_eq_true rfl) ?_
  refine zb_ws (ws' := [(h0, .inr (4, [.ref q1, .null, .null, .null, .null, .null, .null, .int 0, .int 0, .int 0, .int 0, .int 0, .int 0, .int 0, .int 0, .int 0])), (q1, .inl (ca .long, 7, .inr (.inl (fun _ => 0))))]) rfl ?_
  refine zb_aload0 0 hX dX4_init_12 rfl ?_
  refine zb_bipush (v := (7 : Int32)) hX dX4_init_13 (by decide) ?_
  refine zb_newa (ty := .long) (N := 7) (t0 := 1) (a0 := .inr (.inl (fun _ => 0))) hX hA dX4_init_15 rfl rfl (fun h => h) zb_along (fun _ => rfl) (by decide) (by decide) (by decide) (Nat.le_of_ble_eq_true rfl) (Nat.le_of_ble_eq_true rfl) (fun q2 => ?_)
  refine zb_ws (ws' := [(h0, .inr (4, [.ref q1, .null, .null, .null, .null, .null, .null, .int 0, .int 0, .int 0, .int 0, .int 0, .int 0, .int 0, .int 0, .int 0])), (q1, .inl (ca .long, 7, .inr (.inl (fun _ => 0)))), (q2, .inl (ca .long, 7, .inr (.inl (fun _ => 0))))]) rfl ?_
  refine zb_putF (q0 := 0) (j := 1) (ty := (tyX4 1)) hX dX4_init_17 clX4 fiX4_15 (Nat.le_of_ble_eq_true rfl) rfl rfl rfl (by decide +kernel) rfl rfl (Nat.le_of_ble_eq_true rfl) ?_
  refine zb_ws (ws' := [(h0, .inr (4, [.ref q1, .ref q2, .null, .null, .null, .null, .null, .int 0, .int 0, .int 0, .int 0, .int 0, .int 0, .int 0, .int 0, .int 0])), (q1, .inl (ca .long, 7, .inr (.inl (fun _ => 0)))), (q2, .inl (ca .long, 7, .inr (.inl (fun _ => 0))))]) rfl ?_
  refine zb_aload0 0 hX dX4_init_20 rfl ?_
  refine zb_sipush (v := (128 : Int32)) hX dX4_init_21 (by decide) ?_
  refine zb_newa (ty := .long) (N := 128) (t0 := 1) (a0 := .inr (.inl (fun _ => 0))) hX hA dX4_init_24 rfl rfl (fun h => h) zb_along (fun _ => rfl) (by decide) (by decide) (by decide) (Nat.le_of_ble_eq_true rfl) (Nat.le_of_ble_eq_true rfl) (fun q3 => ?_)
  refine zb_ws (ws' := [(h0, .inr (4, [.ref q1, .ref q2, .null, .null, .null, .null, .null, .int 0, .int 0, .int 0, .int 0, .int 0, .int 0, .int 0, .int 0, .int 0])), (q1, .inl (ca .long, 7, .inr (.inl (fun _ => 0)))), (q2, .inl (ca .long, 7, .inr (.inl (fun _ => 0)))), (q3, .inl (ca .long, 128, .inr (.inl (fun _ => 0))))]) rfl ?_
  refine zb_putF (q0 := 0) (j := 2) (ty := (tyX4 2)) hX dX4_init_26 clX4 fiX4_18 (Nat.le_of_ble_eq_true rfl) rfl rfl rfl (by decide +kernel) rfl rfl (Nat.le_of_ble_eq_true rfl) ?_
  refine zb_ws (ws' := [(h0, .inr (4, [.ref q1, .ref q2, .ref q3, .null, .null, .null, .null, .int 0, .int 0, .int 0, .int 0, .int 0, .int 0, .int 0, .int 0, .int 0])), (q1, .inl (ca .long, 7, .inr (.inl (fun _ => 0)))), (q2, .inl (ca .long, 7, .inr (.inl (fun _ => 0)))), (q3, .inl (ca .long, 128, .inr (.inl (fun _ => 0))))]) rfl ?_
  refine zb_aload0 0 hX dX4_init_29 rfl ?_
  refine zb_sipush (v := (128 : Int32)) hX dX4_init_30 (by decide) ?_
  refine zb_newa (ty := .long) (N := 128) (t0 := 1) (a0 := .inr (.inl (fun _ => 0))) hX hA dX4_init_33 rfl rfl (fun h => h) zb_along (fun _ => rfl) (by decide) (by decide) (by decide) (Nat.le_of_ble_eq_true rfl) (Nat.le_of_ble_eq_true rfl) (fun q4 => ?_)
  refine zb_ws (ws' := [(h0, .inr (4, [.ref q1, .ref q2, .ref q3, .null, .null, .null, .null, .int 0, .int 0, .int 0, .int 0, .int 0, .int 0, .int 0, .int 0, .int 0])), (q1, .inl (ca .long, 7, .inr (.inl (fun _ => 0)))), (q2, .inl (ca .long, 7, .inr (.inl (fun _ => 0)))), (q3, .inl (ca .long, 128, .inr (.inl (fun _ => 0)))), (q4, .inl (ca .long, 128, .inr (.inl (fun _ => 0))))]) rfl ?_
  refine zb_putF (q0 := 0) (j := 3) (ty := (tyX4 3)) hX dX4_init_35 clX4 fiX4_21 (Nat.le_of_ble_eq_true rfl) rfl rfl rfl (by decide +kernel) rfl rfl (Nat.le_of_ble_eq_true rfl) ?_
  refine zb_ws (ws' := [(h0, .inr (4, [.ref q1, .ref q2, .ref q3, .ref q4, .null, .null, .null, .int 0, .int 0, .int 0, .int 0, .int 0, .int 0, .int 0, .int 0, .int 0])), (q1, .inl (ca .long, 7, .inr (.inl (fun _ => 0)))), (q2, .inl (ca .long, 7, .inr (.inl (fun _ => 0)))), (q3, .inl (ca .long, 128, .inr (.inl (fun _ => 0)))), (q4, .inl (ca .long, 128, .inr (.inl (fun _ => 0))))]) rfl ?_
  refine zb_aload0 0 hX dX4_init_38 rfl ?_
  refine zb_bipush (v := (7 : Int32)) hX dX4_init_39 (by decide) ?_
  refine zb_newa (ty := .int) (N := 7) (t0 := 0) (a0 := .inl (fun _ => 0)) hX hA dX4_init_41 rfl rfl (fun h => h) zb_aint (fun _ => rfl) (by decide) (by decide) (by decide) (Nat.le_of_ble_eq_true rfl) (Nat.le_of_ble_eq_true rfl) (fun q5 => ?_)
  refine zb_ws (ws' := [(h0, .inr (4, [.ref q1, .ref q2, .ref q3, .ref q4, .null, .null, .null, .int 0, .int 0, .int 0, .int 0, .int 0, .int 0, .int 0, .int 0, .int 0])), (q1, .inl (ca .long, 7, .inr (.inl (fun _ => 0)))), (q2, .inl (ca .long, 7, .inr (.inl (fun _ => 0)))), (q3, .inl (ca .long, 128, .inr (.inl (fun _ => 0)))), (q4, .inl (ca .long, 128, .inr (.inl (fun _ => 0)))), (q5, .inl (ca .int, 7, .inl (fun _ => 0)))]) rfl ?_
  refine zb_putF (q0 := 0) (j := 4) (ty := (tyX4 4)) hX dX4_init_43 clX4 fiX4_24 (Nat.le_of_ble_eq_true rfl) rfl rfl rfl (by decide +kernel) rfl rfl (Nat.le_of_ble_eq_true rfl) ?_
  refine zb_ws (ws' := [(h0, .inr (4, [.ref q1, .ref q2, .ref q3, .ref q4, .ref q5, .null, .null, .int 0, .int 0, .int 0, .int 0, .int 0, .int 0, .int 0, .int 0, .int 0])), (q1, .inl (ca .long, 7, .inr (.inl (fun _ => 0)))), (q2, .inl (ca .long, 7, .inr (.inl (fun _ => 0)))), (q3, .inl (ca .long, 128, .inr (.inl (fun _ => 0)))), (q4, .inl (ca .long, 128, .inr (.inl (fun _ => 0)))), (q5, .inl (ca .int, 7, .inl (fun _ => 0)))]) rfl ?_
  refine zb_aload0 0 hX dX4_init_46 rfl ?_
  refine zb_bipush (v := (7 : Int32)) hX dX4_init_47 (by decide) ?_
  refine zb_newa (ty := .int) (N := 7) (t0 := 0) (a0 := .inl (fun _ => 0)) hX hA dX4_init_49 rfl rfl (fun h => h) zb_aint (fun _ => rfl) (by decide) (by decide) (by decide) (Nat.le_of_ble_eq_true rfl) (Nat.le_of_ble_eq_true rfl) (fun q6 => ?_)
  refine zb_ws (ws' := [(h0, .inr (4, [.ref q1, .ref q2, .ref q3, .ref q4, .ref q5, .null, .null, .int 0, .int 0, .int 0, .int 0, .int 0, .int 0, .int 0, .int 0, .int 0])), (q1, .inl (ca .long, 7, .inr (.inl (fun _ => 0)))), (q2, .inl (ca .long, 7, .inr (.inl (fun _ => 0)))), (q3, .inl (ca .long, 128, .inr (.inl (fun _ => 0)))), (q4, .inl (ca .long, 128, .inr (.inl (fun _ => 0)))), (q5, .inl (ca .int, 7, .inl (fun _ => 0))), (q6, .inl (ca .int, 7, .inl (fun _ => 0)))]) rfl ?_
  refine zb_putF (q0 := 0) (j := 5) (ty := (tyX4 5)) hX dX4_init_51 clX4 fiX4_28 (Nat.le_of_ble_eq_true rfl) rfl rfl rfl (by decide +kernel) rfl rfl (Nat.le_of_ble_eq_true rfl) ?_
  refine zb_ws (ws' := [(h0, .inr (4, [.ref q1, .ref q2, .ref q3, .ref q4, .ref q5, .ref q6, .null, .int 0, .int 0, .int 0, .int 0, .int 0, .int 0, .int 0, .int 0, .int 0])), (q1, .inl (ca .long, 7, .inr (.inl (fun _ => 0)))), (q2, .inl (ca .long, 7, .inr (.inl (fun _ => 0)))), (q3, .inl (ca .long, 128, .inr (.inl (fun _ => 0)))), (q4, .inl (ca .long, 128, .inr (.inl (fun _ => 0)))), (q5, .inl (ca .int, 7, .inl (fun _ => 0))), (q6, .inl (ca .int, 7, .inl (fun _ => 0)))]) rfl ?_
  refine zb_aload0 0 hX dX4_init_54 rfl ?_
  refine zb_bipush (v := (14 : Int32)) hX dX4_init_55 (by decide) ?_
  refine zb_newa (ty := .int) (N := 14) (t0 := 0) (a0 := .inl (fun _ => 0)) hX hA dX4_init_57 rfl rfl (fun h => h) zb_aint (fun _ => rfl) (by decide) (by decide) (by decide) (Nat.le_of_ble_eq_true rfl) (Nat.le_of_ble_eq_true rfl) (fun q7 => ?_)
  refine zb_ws (ws' := [(h0, .inr (4, [.ref q1, .ref q2, .ref q3, .ref q4, .ref q5, .ref q6, .null, .int 0, .int 0, .int 0, .int 0, .int 0, .int 0, .int 0, .int 0, .int 0])), (q1, .inl (ca .long, 7, .inr (.inl (fun _ => 0)))), (q2, .inl (ca .long, 7, .inr (.inl (fun _ => 0)))), (q3, .inl (ca .long, 128, .inr (.inl (fun _ => 0)))), (q4, .inl (ca .long, 128, .inr (.inl (fun _ => 0)))), (q5, .inl (ca .int, 7, .inl (fun _ => 0))), (q6, .inl (ca .int, 7, .inl (fun _ => 0))), (q7, .inl (ca .int, 14, .inl (fun _ => 0)))]) rfl ?_
  refine zb_putF (q0 := 0) (j := 6) (ty := (tyX4 6)) hX dX4_init_59 clX4 fiX4_31 (Nat.le_of_ble_eq_true rfl) rfl rfl rfl (by decide +kernel) rfl rfl (Nat.le_of_ble_eq_true rfl) ?_
  refine zb_ws (ws' := [(h0, .inr (4, [.ref q1, .ref q2, .ref q3, .ref q4, .ref q5, .ref q6, .ref q7, .int 0, .int 0, .int 0, .int 0, .int 0, .int 0, .int 0, .int 0, .int 0])), (q1, .inl (ca .long, 7, .inr (.inl (fun _ => 0)))), (q2, .inl (ca .long, 7, .inr (.inl (fun _ => 0)))), (q3, .inl (ca .long, 128, .inr (.inl (fun _ => 0)))), (q4, .inl (ca .long, 128, .inr (.inl (fun _ => 0)))), (q5, .inl (ca .int, 7, .inl (fun _ => 0))), (q6, .inl (ca .int, 7, .inl (fun _ => 0))), (q7, .inl (ca .int, 14, .inl (fun _ => 0)))]) rfl ?_
  refine zb_ws (ws' := zm_W zb_H4 ca (fun k => ([h0, q1, q2, q3, q4, q5, q6, q7] : List Nat).getD k 0) zb_w4) rfl ?_
  exact zb_widen (Nat.le_of_ble_eq_true rfl) (Nat.le_of_ble_eq_true rfl) (hret 62 _ (fun k => ([h0, q1, q2, q3, q4, q5, q6, q7] : List Nat).getD k 0) dX4_init_62 rfl)
def zb_H5 : List zm_H := [.inr (5, [some 1, none, none, none]), .inl (.int, 60, [])]
def zb_w5 : zm_S := (fun k => match k with
  | 0 => fun j => match j with | 1 => 1 | _ => 0
  | _ => fun _ => 0, fun _ _ => 0)
set_option maxRecDepth 100000 in
set_option maxHeartbeats 4000000 in
theorem k_X5_init : zb_C mX5_init { frames := 2, cells := 1, slots := 60, locals := 70 } 5 [.null, .int 0, .int 0, .int 0] zb_H5 zb_w5 := by
  refine zb_C.of mbX5_init (Nat.le_of_ble_eq_true rfl) ?_
  intro l D ca h0 p e s m args below meth c A Z hX hA hret
  refine zb_aload0 0 hX dX5_init_0 rfl ?_
  refine zb_obj hX dX5_init_1 obX5 zb_oi ⟨(Nat.le_of_ble_eq_true rfl), (Nat.le_of_ble_eq_true rfl)⟩ ?_
  refine zb_aload0 0 hX dX5_init_4 rfl ?_
  refine zb_bipush (v := (60 : Int32)) hX dX5_init_5 (by decide) ?_
  refine zb_newa (ty := .int) (N := 60) (t0 := 0) (a0 := .inl (fun _ => 0)) hX hA dX5_init_7 rfl rfl (fun h => h) zb_aint (fun _ => rfl) (by decide) (by decide) (by decide) (Nat.le_of_ble_eq_true rfl) (Nat.le_of_ble_eq_true rfl) (fun q1 => ?_)
  refine zb_ws (ws' := [(h0, .inr (5, [.null, .int 0, .int 0, .int 0])), (q1, .inl (ca .int, 60, .inl (fun _ => 0)))]) rfl ?_
  refine zb_putF (q0 := 0) (j := 0) (ty := (tyX5 0)) hX dX5_init_9 clX5 fiX5_9 (Nat.le_of_ble_eq_true rfl) rfl rfl rfl (by decide +kernel) rfl rfl (Nat.le_of_ble_eq_true rfl) ?_
  refine zb_ws (ws' := [(h0, .inr (5, [.ref q1, .int 0, .int 0, .int 0])), (q1, .inl (ca .int, 60, .inl (fun _ => 0)))]) rfl ?_
  refine zb_aload0 0 hX dX5_init_12 rfl ?_
  refine zb_iconst (v := (1 : Int32)) hX dX5_init_13 (by decide) ?_
  refine zb_put (q0 := 0) (j := 1) (ty := .boolean) hX dX5_init_14 clX5 fiX5_15 (Nat.le_of_ble_eq_true rfl) rfl rfl (by decide +kernel) rfl (by decide) (Nat.le_of_ble_eq_true rfl) ?_
  refine zb_ws (ws' := [(h0, .inr (5, [.ref q1, .int (1 : Int32), .int 0, .int 0])), (q1, .inl (ca .int, 60, .inl (fun _ => 0)))]) rfl ?_
  refine zb_ws (ws' := zm_W zb_H5 ca (fun k => ([h0, q1] : List Nat).getD k 0) zb_w5) rfl ?_
  exact zb_widen (Nat.le_of_ble_eq_true rfl) (Nat.le_of_ble_eq_true rfl) (hret 17 _ (fun k => ([h0, q1] : List Nat).getD k 0) dX5_init_17 rfl)
def zb_H6 : List zm_H := [.inr (6, [some 1, some 2, some 3, some 4, none, none, none, none]), .inl (.int, 7, []), .inl (.boolean, 128, []), .inl (.int, 128, []), .inl (.int, 128, [])]
def zb_w6 : zm_S := (fun k => match k with
  | 0 => fun _ => 0
  | _ => fun _ => 0, fun _ _ => 0)
set_option maxRecDepth 100000 in
set_option maxHeartbeats 4000000 in
theorem k_X6_init : zb_C mX6_init { frames := 2, cells := 4, slots := 391, locals := 70 } 6 [.null, .null, .null, .null, .int 0, .int 0, .int 0, .int 0] zb_H6 zb_w6 := by
  refine zb_C.of mbX6_init (Nat.le_of_ble_eq_true rfl) ?_
  intro l D ca h0 p e s m args below meth c A Z hX hA hret
  refine zb_aload0 0 hX dX6_init_0 rfl ?_
  refine zb_obj hX dX6_init_1 obX6 zb_oi ⟨(Nat.le_of_ble_eq_true rfl), (Nat.le_of_ble_eq_true rfl)⟩ ?_
  refine zb_aload0 0 hX dX6_init_4 rfl ?_
  refine zb_bipush (v := (7 : Int32)) hX dX6_init_5 (by decide) ?_
  refine zb_newa (ty := .int) (N := 7) (t0 := 0) (a0 := .inl (fun _ => 0)) hX hA dX6_init_7 rfl rfl (fun h => h) zb_aint (fun _ => rfl) (by decide) (by decide) (by decide) (Nat.le_of_ble_eq_true rfl) (Nat.le_of_ble_eq_true rfl) (fun q1 => ?_)
  refine zb_ws (ws' := [(h0, .inr (6, [.null, .null, .null, .null, .int 0, .int 0, .int 0, .int 0])), (q1, .inl (ca .int, 7, .inl (fun _ => 0)))]) rfl ?_
  refine zb_putF (q0 := 0) (j := 0) (ty := (tyX6 0)) hX dX6_init_9 clX6 fiX6_9 (Nat.le_of_ble_eq_true rfl) rfl rfl rfl (by decide +kernel) rfl rfl (Nat.le_of_ble_eq_true rfl) ?_
  refine zb_ws (ws' := [(h0, .inr (6, [.ref q1, .null, .null, .null, .int 0, .int 0, .int 0, .int 0])), (q1, .inl (ca .int, 7, .inl (fun _ => 0)))]) rfl ?_
  refine zb_aload0 0 hX dX6_init_12 rfl ?_
  refine zb_sipush (v := (128 : Int32)) hX dX6_init_13 (by decide) ?_
  refine zb_newa (ty := .boolean) (N := 128) (t0 := 4) (a0 := .inl (fun _ => 0)) hX hA dX6_init_16 rfl rfl (fun h => h) zb_aboolean (fun _ => rfl) (by decide) (by decide) (by decide) (Nat.le_of_ble_eq_true rfl) (Nat.le_of_ble_eq_true rfl) (fun q2 => ?_)
  refine zb_ws (ws' := [(h0, .inr (6, [.ref q1, .null, .null, .null, .int 0, .int 0, .int 0, .int 0])), (q1, .inl (ca .int, 7, .inl (fun _ => 0))), (q2, .inl (ca .boolean, 128, .inl (fun _ => 0)))]) rfl ?_
  refine zb_putF (q0 := 0) (j := 1) (ty := (tyX6 1)) hX dX6_init_18 clX6 fiX6_15 (Nat.le_of_ble_eq_true rfl) rfl rfl rfl (by decide +kernel) rfl rfl (Nat.le_of_ble_eq_true rfl) ?_
  refine zb_ws (ws' := [(h0, .inr (6, [.ref q1, .ref q2, .null, .null, .int 0, .int 0, .int 0, .int 0])), (q1, .inl (ca .int, 7, .inl (fun _ => 0))), (q2, .inl (ca .boolean, 128, .inl (fun _ => 0)))]) rfl ?_
  refine zb_aload0 0 hX dX6_init_21 rfl ?_
  refine zb_sipush (v := (128 : Int32)) hX dX6_init_22 (by decide) ?_
  refine zb_newa (ty := .int) (N := 128) (t0 := 0) (a0 := .inl (fun _ => 0)) hX hA dX6_init_25 rfl rfl (fun h => h) zb_aint (fun _ => rfl) (by decide) (by decide) (by decide) (Nat.le_of_ble_eq_true rfl) (Nat.le_of_ble_eq_true rfl) (fun q3 => ?_)
  refine zb_ws (ws' := [(h0, .inr (6, [.ref q1, .ref q2, .null, .null, .int 0, .int 0, .int 0, .int 0])), (q1, .inl (ca .int, 7, .inl (fun _ => 0))), (q2, .inl (ca .boolean, 128, .inl (fun _ => 0))), (q3, .inl (ca .int, 128, .inl (fun _ => 0)))]) rfl ?_
  refine zb_putF (q0 := 0) (j := 2) (ty := (tyX6 2)) hX dX6_init_27 clX6 fiX6_19 (Nat.le_of_ble_eq_true rfl) rfl rfl rfl (by decide +kernel) rfl rfl (Nat.le_of_ble_eq_true rfl) ?_
  refine zb_ws (ws' := [(h0, .inr (6, [.ref q1, .ref q2, .ref q3, .null, .int 0, .int 0, .int 0, .int 0])), (q1, .inl (ca .int, 7, .inl (fun _ => 0))), (q2, .inl (ca .boolean, 128, .inl (fun _ => 0))), (q3, .inl (ca .int, 128, .inl (fun _ => 0)))]) rfl ?_
  refine zb_aload0 0 hX dX6_init_30 rfl ?_
  refine zb_sipush (v := (128 : Int32)) hX dX6_init_31 (by decide) ?_
  refine zb_newa (ty := .int) (N := 128) (t0 := 0) (a0 := .inl (fun _ => 0)) hX hA dX6_init_34 rfl rfl (fun h => h) zb_aint (fun _ => rfl) (by decide) (by decide) (by decide) (Nat.le_of_ble_eq_true rfl) (Nat.le_of_ble_eq_true rfl) (fun q4 => ?_)
  refine zb_ws (ws' := [(h0, .inr (6, [.ref q1, .ref q2, .ref q3, .null, .int 0, .int 0, .int 0, .int 0])), (q1, .inl (ca .int, 7, .inl (fun _ => 0))), (q2, .inl (ca .boolean, 128, .inl (fun _ => 0))), (q3, .inl (ca .int, 128, .inl (fun _ => 0))), (q4, .inl (ca .int, 128, .inl (fun _ => 0)))]) rfl ?_
  refine zb_putF (q0 := 0) (j := 3) (ty := (tyX6 3)) hX dX6_init_36 clX6 fiX6_22 (Nat.le_of_ble_eq_true rfl) rfl rfl rfl (by decide +kernel) rfl rfl (Nat.le_of_ble_eq_true rfl) ?_
  refine zb_ws (ws' := [(h0, .inr (6, [.ref q1, .ref q2, .ref q3, .ref q4, .int 0, .int 0, .int 0, .int 0])), (q1, .inl (ca .int, 7, .inl (fun _ => 0))), (q2, .inl (ca .boolean, 128, .inl (fun _ => 0))), (q3, .inl (ca .int, 128, .inl (fun _ => 0))), (q4, .inl (ca .int, 128, .inl (fun _ => 0)))]) rfl ?_
  refine zb_ws (ws' := zm_W zb_H6 ca (fun k => ([h0, q1, q2, q3, q4] : List Nat).getD k 0) zb_w6) rfl ?_
  exact zb_widen (Nat.le_of_ble_eq_true rfl) (Nat.le_of_ble_eq_true rfl) (hret 39 _ (fun k => ([h0, q1, q2, q3, q4] : List Nat).getD k 0) dX6_init_39 rfl)
