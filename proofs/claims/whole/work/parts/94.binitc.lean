def mX7_init : zm_M := (RX7, yX7_init, cX7_init, 2, none)
set_option maxRecDepth 100000 in
theorem mbX7_init : zb_M mX7_init := ⟨(zm_in 96 rfl rfl), (zm_in 79 rfl rfl), (zm_in 95 rfl rfl), rfl, ⟨by decide +kernel, by decide +kernel, by decide +kernel⟩, rfl, by decide +kernel, rfl⟩
set_option maxRecDepth 100000 in
theorem obX7 : Cond.methodLink RX7 3 Lib.objectInit ∈ zm_tb := (zm_in 97 rfl rfl)
set_option maxRecDepth 100000 in
theorem fiX7_9 : Cond.fieldLink RX7 9 (TX7 0).1 (TX7 0).2.1 (TX7 0).2.2.1 ∈ zm_tb := (zm_in 352 rfl rfl)
set_option maxRecDepth 100000 in
theorem fiX7_16 : Cond.fieldLink RX7 16 (TX7 1).1 (TX7 1).2.1 (TX7 1).2.2.1 ∈ zm_tb := (zm_in 353 rfl rfl)
set_option maxRecDepth 100000 in
theorem fiX7_23 : Cond.fieldLink RX7 23 (TX7 2).1 (TX7 2).2.1 (TX7 2).2.2.1 ∈ zm_tb := (zm_in 354 rfl rfl)
set_option maxRecDepth 100000 in
theorem fiX7_30 : Cond.fieldLink RX7 30 (TX7 3).1 (TX7 3).2.1 (TX7 3).2.2.1 ∈ zm_tb := (zm_in 355 rfl rfl)
set_option maxRecDepth 100000 in
theorem fiX7_37 : Cond.fieldLink RX7 37 (TX7 4).1 (TX7 4).2.1 (TX7 4).2.2.1 ∈ zm_tb := (zm_in 356 rfl rfl)
set_option maxRecDepth 100000 in
theorem fiX7_44 : Cond.fieldLink RX7 44 (TX7 5).1 (TX7 5).2.1 (TX7 5).2.2.1 ∈ zm_tb := (zm_in 357 rfl rfl)
set_option maxRecDepth 100000 in
theorem fiX7_51 : Cond.fieldLink RX7 51 (TX7 6).1 (TX7 6).2.1 (TX7 6).2.2.1 ∈ zm_tb := (zm_in 358 rfl rfl)
set_option maxRecDepth 100000 in
theorem fiX7_57 : Cond.fieldLink RX7 57 (TX7 7).1 (TX7 7).2.1 (TX7 7).2.2.1 ∈ zm_tb := (zm_in 359 rfl rfl)
def zc_f1 : Nat → Int32 := (upd (upd (upd (upd (fun _ => 0) (((0 : Int32)).toNatClampNeg) (5 : Int32)) (((1 : Int32)).toNatClampNeg) (999 : Int32)) (((2 : Int32)).toNatClampNeg) (0 : Int32)) (((3 : Int32)).toNatClampNeg) (0 : Int32))
def zc_w0 : zm_S := (fun k => match k with
  | 1 => zc_f1
  | 2 => fun j => match j with | 9 => 5 | 10 => 31 | 11 => 999 | _ => 0
  | 11 => fun j => match j with | 5 => -1 | _ => 0
  | 40 => fun j => match j with | 1 => 1 | _ => 0
  | 42 => fun j => match j with | 1 => 1 | _ => 0
  | 44 => fun j => match j with | 1 => 1 | _ => 0
  | 46 => fun j => match j with | 1 => 1 | _ => 0
  | _ => fun _ => 0, fun _ _ => 0)
theorem zb_g38 (g f : Nat → Nat) (h0 : g 4 = f 34) (h1 : g 5 = f 35) (h2 : g 6 = f 36) (h3 : g 7 = f 37) (h4 : g 8 = f 38) : (fun j : Nat => (([4, 5, 6, 7, 8] : List Nat)[j]?).map g) = fun j : Nat => (([34, 35, 36, 37, 38] : List Nat)[j]?).map f := by
  funext j
  match j with
  | 0 => exact congrArg some h0
  | 1 => exact congrArg some h1
  | 2 => exact congrArg some h2
  | 3 => exact congrArg some h3
  | 4 => exact congrArg some h4
  | j + 5 => rfl
theorem zb_f4 (ad : Nat → Nat) : va_up (va_up (va_up (va_up (fun _ => none) (((0 : Int32)).toNatClampNeg) (some (ad 40))) (((1 : Int32)).toNatClampNeg) (some (ad 42))) (((2 : Int32)).toNatClampNeg) (some (ad 44))) (((3 : Int32)).toNatClampNeg) (some (ad 46)) = fun j : Nat => (([40, 42, 44, 46] : List Nat)[j]?).map ad := by
  have e0 : ((0 : Int32)).toNatClampNeg = 0 := by decide
  have e1 : ((1 : Int32)).toNatClampNeg = 1 := by decide
  have e2 : ((2 : Int32)).toNatClampNeg = 2 := by decide
  have e3 : ((3 : Int32)).toNatClampNeg = 3 := by decide
  rw [e0, e1, e2, e3]
  funext j
  match j with
  | 0 => rfl
  | 1 => rfl
  | 2 => rfl
  | 3 => rfl
  | j + 4 => simp [va_up]
def zc_L (h0 q1 q14 : Nat) (ad3 ad5 ad7 ad9 ad11 ad13 ad16 ad18 ad20 ad22 : Nat → Nat) (ca : FieldType → ClassId) (GG FF : Nat → Option Nat) : va_W := [(h0, .inr (7, [.ref q1, .ref (ad3 0), .ref (ad5 0), .ref (ad7 0), .ref (ad9 0), .ref (ad11 0), .ref (ad13 0), .ref q14, .int 0])), (q1, .inl (ca .int, 4, .inl zc_f1)), (ad3 0, .inr (0, [.ref (ad3 1), .ref (ad3 2), .ref (ad3 3), .ref (ad3 4), .ref (ad3 5), .ref (ad3 6), .ref (ad3 7), .ref (ad3 8), .int (0), .int (5), .int (31), .int (999)])), (ad3 1, .inl (ca .byte, 160, .inl (fun _ => 0))), (ad3 2, .inl (ca .byte, 160, .inl (fun _ => 0))), (ad3 3, .inl (ca .byte, 160, .inl (fun _ => 0))), (ad3 4, .inl (ca .short, 160, .inl (fun _ => 0))), (ad3 5, .inl (ca .int, 12, .inl (fun _ => 0))), (ad3 6, .inl (ca .int, 12, .inl (fun _ => 0))), (ad3 7, .inl (ca .int, 7, .inl (fun _ => 0))), (ad3 8, .inl (ca .int, 7, .inl (fun _ => 0))), (ad5 0, .inr (2, [.ref (ad5 1), .ref (ad5 2), .ref (ad5 3), .int (0), .int (0), .int (-1)])), (ad5 1, .inl (ca .int, 60, .inl (fun _ => 0))), (ad5 2, .inl (ca .int, 7, .inl (fun _ => 0))), (ad5 3, .inl (ca .int, 7, .inl (fun _ => 0))), (ad7 0, .inr (4, [.ref (ad7 1), .ref (ad7 2), .ref (ad7 3), .ref (ad7 4), .ref (ad7 5), .ref (ad7 6), .ref (ad7 7), .int (0), .int (0), .int (0), .int (0), .int (0), .int (0), .int (0), .int (0), .int (0)])), (ad7 1, .inl (ca .long, 7, .inr (.inl (fun _ => 0)))), (ad7 2, .inl (ca .long, 7, .inr (.inl (fun _ => 0)))), (ad7 3, .inl (ca .long, 128, .inr (.inl (fun _ => 0)))), (ad7 4, .inl (ca .long, 128, .inr (.inl (fun _ => 0)))), (ad7 5, .inl (ca .int, 7, .inl (fun _ => 0))), (ad7 6, .inl (ca .int, 7, .inl (fun _ => 0))), (ad7 7, .inl (ca .int, 14, .inl (fun _ => 0))), (ad9 0, .inr (6, [.ref (ad9 1), .ref (ad9 2), .ref (ad9 3), .ref (ad9 4), .int (0), .int (0), .int (0), .int (0)])), (ad9 1, .inl (ca .int, 7, .inl (fun _ => 0))), (ad9 2, .inl (ca .boolean, 128, .inl (fun _ => 0))), (ad9 3, .inl (ca .int, 128, .inl (fun _ => 0))), (ad9 4, .inl (ca .int, 128, .inl (fun _ => 0))), (ad11 0, .inr (1, [.ref (ad11 1), .int (0), .int (0)])), (ad11 1, .inl (ca .int, 7, .inl (fun _ => 0))), (ad13 0, .inr (3, [.ref (ad13 1), .ref (ad13 2), .ref (ad13 3), .int (0), .int (0), .int (0)])), (ad13 1, .inl (ca (.array .int), 5, .inr (.inr (.inr (.inr GG))))), (ad13 2, .inl (ca .int, 4, .inl (fun _ => 0))), (ad13 3, .inl (ca .int, 4, .inl (fun _ => 0))), (ad13 4, .inl (ca .int, 12, .inl (fun _ => 0))), (ad13 5, .inl (ca .int, 12, .inl (fun _ => 0))), (ad13 6, .inl (ca .int, 12, .inl (fun _ => 0))), (ad13 7, .inl (ca .int, 12, .inl (fun _ => 0))), (ad13 8, .inl (ca .int, 12, .inl (fun _ => 0))), (q14, .inl (ca (.object RX5), 4, .inr (.inr (.inr (.inr FF))))), (ad16 0, .inr (5, [.ref (ad16 1), .int (1), .int (0), .int (0)])), (ad16 1, .inl (ca .int, 60, .inl (fun _ => 0))), (ad18 0, .inr (5, [.ref (ad18 1), .int (1), .int (0), .int (0)])), (ad18 1, .inl (ca .int, 60, .inl (fun _ => 0))), (ad20 0, .inr (5, [.ref (ad20 1), .int (1), .int (0), .int (0)])), (ad20 1, .inl (ca .int, 60, .inl (fun _ => 0))), (ad22 0, .inr (5, [.ref (ad22 1), .int (1), .int (0), .int (0)])), (ad22 1, .inl (ca .int, 60, .inl (fun _ => 0)))]
set_option maxRecDepth 100000 in
set_option maxHeartbeats 1000000 in
theorem zc_E2 (h0 q1 q14 : Nat) (ad3 ad5 ad7 ad9 ad11 ad13 ad16 ad18 ad20 ad22 : Nat → Nat) (ca : FieldType → ClassId) : zc_L h0 q1 q14 ad3 ad5 ad7 ad9 ad11 ad13 ad16 ad18 ad20 ad22 ca (fun j : Nat => (([34, 35, 36, 37, 38] : List Nat)[j]?).map (fun k => ([h0, q1, ad3 0, ad3 1, ad3 2, ad3 3, ad3 4, ad3 5, ad3 6, ad3 7, ad3 8, ad5 0, ad5 1, ad5 2, ad5 3, ad7 0, ad7 1, ad7 2, ad7 3, ad7 4, ad7 5, ad7 6, ad7 7, ad9 0, ad9 1, ad9 2, ad9 3, ad9 4, ad11 0, ad11 1, ad13 0, ad13 1, ad13 2, ad13 3, ad13 4, ad13 5, ad13 6, ad13 7, ad13 8, q14, ad16 0, ad16 1, ad18 0, ad18 1, ad20 0, ad20 1, ad22 0, ad22 1] : List Nat).getD k 0)) (fun j : Nat => (([40, 42, 44, 46] : List Nat)[j]?).map (fun k => ([h0, q1, ad3 0, ad3 1, ad3 2, ad3 3, ad3 4, ad3 5, ad3 6, ad3 7, ad3 8, ad5 0, ad5 1, ad5 2, ad5 3, ad7 0, ad7 1, ad7 2, ad7 3, ad7 4, ad7 5, ad7 6, ad7 7, ad9 0, ad9 1, ad9 2, ad9 3, ad9 4, ad11 0, ad11 1, ad13 0, ad13 1, ad13 2, ad13 3, ad13 4, ad13 5, ad13 6, ad13 7, ad13 8, q14, ad16 0, ad16 1, ad18 0, ad18 1, ad20 0, ad20 1, ad22 0, ad22 1] : List Nat).getD k 0)) = zm_W zc_H ca (fun k => ([h0, q1, ad3 0, ad3 1, ad3 2, ad3 3, ad3 4, ad3 5, ad3 6, ad3 7, ad3 8, ad5 0, ad5 1, ad5 2, ad5 3, ad7 0, ad7 1, ad7 2, ad7 3, ad7 4, ad7 5, ad7 6, ad7 7, ad9 0, ad9 1, ad9 2, ad9 3, ad9 4, ad11 0, ad11 1, ad13 0, ad13 1, ad13 2, ad13 3, ad13 4, ad13 5, ad13 6, ad13 7, ad13 8, q14, ad16 0, ad16 1, ad18 0, ad18 1, ad20 0, ad20 1, ad22 0, ad22 1] : List Nat).getD k 0) zc_w0 := zm_W_of (fun k => match k with
  | 0 => rfl
  | 1 => rfl
  | 2 => rfl
  | 3 => rfl
  | 4 => rfl
  | 5 => rfl
  | 6 => rfl
  | 7 => rfl
  | 8 => rfl
  | 9 => rfl
  | 10 => rfl
  | 11 => rfl
  | 12 => rfl
  | 13 => rfl
  | 14 => rfl
  | 15 => rfl
  | 16 => rfl
  | 17 => rfl
  | 18 => rfl
  | 19 => rfl
  | 20 => rfl
  | 21 => rfl
  | 22 => rfl
  | 23 => rfl
  | 24 => rfl
  | 25 => rfl
  | 26 => rfl
  | 27 => rfl
  | 28 => rfl
  | 29 => rfl
  | 30 => rfl
  | 31 => rfl
  | 32 => rfl
  | 33 => rfl
  | 34 => rfl
  | 35 => rfl
  | 36 => rfl
  | 37 => rfl
  | 38 => rfl
  | 39 => rfl
  | 40 => rfl
  | 41 => rfl
  | 42 => rfl
  | 43 => rfl
  | 44 => rfl
  | 45 => rfl
  | 46 => rfl
  | 47 => rfl
  | k + 48 => rfl)
set_option maxRecDepth 100000 in
set_option maxHeartbeats 1000000 in
theorem zc_E1 (h0 q1 q14 : Nat) (ad3 ad5 ad7 ad9 ad11 ad13 ad16 ad18 ad20 ad22 : Nat → Nat) (ca : FieldType → ClassId) : ((((((((([(h0, .inr (7, [.ref q1, .ref (ad3 0), .ref (ad5 0), .ref (ad7 0), .ref (ad9 0), .ref (ad11 0), .ref (ad13 0), .ref q14, .int 0])), (q1, .inl (ca .int, 4, .inl (upd (upd (upd (upd (fun _ => 0) (((0 : Int32)).toNatClampNeg) (5 : Int32)) (((1 : Int32)).toNatClampNeg) (999 : Int32)) (((2 : Int32)).toNatClampNeg) (0 : Int32)) (((3 : Int32)).toNatClampNeg) (0 : Int32))))] ++ zm_W zb_H0 ca ad3 zb_w0) ++ zm_W zb_H2 ca ad5 zb_w2) ++ zm_W zb_H4 ca ad7 zb_w4) ++ zm_W zb_H6 ca ad9 zb_w6) ++ zm_W zb_H1 ca ad11 zb_w1) ++ zm_W zb_H3 ca ad13 zb_w3) ++ [(q14, .inl (ca (.object RX5), 4, .inr (.inr (.inr (.inr (va_up (va_up (va_up (va_up (fun _ => none) (((0 : Int32)).toNatClampNeg) (some (ad16 0))) (((1 : Int32)).toNatClampNeg) (some (ad18 0))) (((2 : Int32)).toNatClampNeg) (some (ad20 0))) (((3 : Int32)).toNatClampNeg) (some (ad22 0))))))))]) ++ (((([] ++ zm_W zb_H5 ca ad16 zb_w5) ++ zm_W zb_H5 ca ad18 zb_w5) ++ zm_W zb_H5 ca ad20 zb_w5) ++ zm_W zb_H5 ca ad22 zb_w5)) : va_W) = zc_L h0 q1 q14 ad3 ad5 ad7 ad9 ad11 ad13 ad16 ad18 ad20 ad22 ca (fun j : Nat => (([4, 5, 6, 7, 8] : List Nat)[j]?).map ad13) ((va_up (va_up (va_up (va_up (fun _ => none) (((0 : Int32)).toNatClampNeg) (some (ad16 0))) (((1 : Int32)).toNatClampNeg) (some (ad18 0))) (((2 : Int32)).toNatClampNeg) (some (ad20 0))) (((3 : Int32)).toNatClampNeg) (some (ad22 0)))) := rfl
set_option maxRecDepth 100000 in
set_option maxHeartbeats 1000000 in
theorem zc_E (h0 q1 q14 : Nat) (ad3 ad5 ad7 ad9 ad11 ad13 ad16 ad18 ad20 ad22 : Nat → Nat) (ca : FieldType → ClassId) : ((((((((([(h0, .inr (7, [.ref q1, .ref (ad3 0), .ref (ad5 0), .ref (ad7 0), .ref (ad9 0), .ref (ad11 0), .ref (ad13 0), .ref q14, .int 0])), (q1, .inl (ca .int, 4, .inl (upd (upd (upd (upd (fun _ => 0) (((0 : Int32)).toNatClampNeg) (5 : Int32)) (((1 : Int32)).toNatClampNeg) (999 : Int32)) (((2 : Int32)).toNatClampNeg) (0 : Int32)) (((3 : Int32)).toNatClampNeg) (0 : Int32))))] ++ zm_W zb_H0 ca ad3 zb_w0) ++ zm_W zb_H2 ca ad5 zb_w2) ++ zm_W zb_H4 ca ad7 zb_w4) ++ zm_W zb_H6 ca ad9 zb_w6) ++ zm_W zb_H1 ca ad11 zb_w1) ++ zm_W zb_H3 ca ad13 zb_w3) ++ [(q14, .inl (ca (.object RX5), 4, .inr (.inr (.inr (.inr (va_up (va_up (va_up (va_up (fun _ => none) (((0 : Int32)).toNatClampNeg) (some (ad16 0))) (((1 : Int32)).toNatClampNeg) (some (ad18 0))) (((2 : Int32)).toNatClampNeg) (some (ad20 0))) (((3 : Int32)).toNatClampNeg) (some (ad22 0))))))))]) ++ (((([] ++ zm_W zb_H5 ca ad16 zb_w5) ++ zm_W zb_H5 ca ad18 zb_w5) ++ zm_W zb_H5 ca ad20 zb_w5) ++ zm_W zb_H5 ca ad22 zb_w5)) : va_W) = zm_W zc_H ca (fun k => ([h0, q1, ad3 0, ad3 1, ad3 2, ad3 3, ad3 4, ad3 5, ad3 6, ad3 7, ad3 8, ad5 0, ad5 1, ad5 2, ad5 3, ad7 0, ad7 1, ad7 2, ad7 3, ad7 4, ad7 5, ad7 6, ad7 7, ad9 0, ad9 1, ad9 2, ad9 3, ad9 4, ad11 0, ad11 1, ad13 0, ad13 1, ad13 2, ad13 3, ad13 4, ad13 5, ad13 6, ad13 7, ad13 8, q14, ad16 0, ad16 1, ad18 0, ad18 1, ad20 0, ad20 1, ad22 0, ad22 1] : List Nat).getD k 0) zc_w0 := by
  rw [zc_E1 h0 q1 q14 ad3 ad5 ad7 ad9 ad11 ad13 ad16 ad18 ad20 ad22 ca, ← zc_E2 h0 q1 q14 ad3 ad5 ad7 ad9 ad11 ad13 ad16 ad18 ad20 ad22 ca]
  have hg : (fun j : Nat => (([4, 5, 6, 7, 8] : List Nat)[j]?).map ad13) = (fun j : Nat => (([34, 35, 36, 37, 38] : List Nat)[j]?).map (fun k => ([h0, q1, ad3 0, ad3 1, ad3 2, ad3 3, ad3 4, ad3 5, ad3 6, ad3 7, ad3 8, ad5 0, ad5 1, ad5 2, ad5 3, ad7 0, ad7 1, ad7 2, ad7 3, ad7 4, ad7 5, ad7 6, ad7 7, ad9 0, ad9 1, ad9 2, ad9 3, ad9 4, ad11 0, ad11 1, ad13 0, ad13 1, ad13 2, ad13 3, ad13 4, ad13 5, ad13 6, ad13 7, ad13 8, q14, ad16 0, ad16 1, ad18 0, ad18 1, ad20 0, ad20 1, ad22 0, ad22 1] : List Nat).getD k 0)) := zb_g38 ad13 (fun k => ([h0, q1, ad3 0, ad3 1, ad3 2, ad3 3, ad3 4, ad3 5, ad3 6, ad3 7, ad3 8, ad5 0, ad5 1, ad5 2, ad5 3, ad7 0, ad7 1, ad7 2, ad7 3, ad7 4, ad7 5, ad7 6, ad7 7, ad9 0, ad9 1, ad9 2, ad9 3, ad9 4, ad11 0, ad11 1, ad13 0, ad13 1, ad13 2, ad13 3, ad13 4, ad13 5, ad13 6, ad13 7, ad13 8, q14, ad16 0, ad16 1, ad18 0, ad18 1, ad20 0, ad20 1, ad22 0, ad22 1] : List Nat).getD k 0) rfl rfl rfl rfl rfl
  have hf : (va_up (va_up (va_up (va_up (fun _ => none) (((0 : Int32)).toNatClampNeg) (some (ad16 0))) (((1 : Int32)).toNatClampNeg) (some (ad18 0))) (((2 : Int32)).toNatClampNeg) (some (ad20 0))) (((3 : Int32)).toNatClampNeg) (some (ad22 0))) = (fun j : Nat => (([40, 42, 44, 46] : List Nat)[j]?).map (fun k => ([h0, q1, ad3 0, ad3 1, ad3 2, ad3 3, ad3 4, ad3 5, ad3 6, ad3 7, ad3 8, ad5 0, ad5 1, ad5 2, ad5 3, ad7 0, ad7 1, ad7 2, ad7 3, ad7 4, ad7 5, ad7 6, ad7 7, ad9 0, ad9 1, ad9 2, ad9 3, ad9 4, ad11 0, ad11 1, ad13 0, ad13 1, ad13 2, ad13 3, ad13 4, ad13 5, ad13 6, ad13 7, ad13 8, q14, ad16 0, ad16 1, ad18 0, ad18 1, ad20 0, ad20 1, ad22 0, ad22 1] : List Nat).getD k 0)) := zb_f4 (fun k => ([h0, q1, ad3 0, ad3 1, ad3 2, ad3 3, ad3 4, ad3 5, ad3 6, ad3 7, ad3 8, ad5 0, ad5 1, ad5 2, ad5 3, ad7 0, ad7 1, ad7 2, ad7 3, ad7 4, ad7 5, ad7 6, ad7 7, ad9 0, ad9 1, ad9 2, ad9 3, ad9 4, ad11 0, ad11 1, ad13 0, ad13 1, ad13 2, ad13 3, ad13 4, ad13 5, ad13 6, ad13 7, ad13 8, q14, ad16 0, ad16 1, ad18 0, ad18 1, ad20 0, ad20 1, ad22 0, ad22 1] : List Nat).getD k 0)
  rw [hg, hf]
set_option maxRecDepth 100000 in
set_option maxHeartbeats 1500000 in
theorem k_X7_init : zb_C mX7_init { frames := 4, cells := 47, slots := 1836, locals := 200 } 7 [.null, .null, .null, .null, .null, .null, .null, .null, .int 0] zc_H zc_w0 := by
  refine zb_C.of mbX7_init (Nat.le_of_ble_eq_true rfl) ?_
  intro l D ca h0 p e s m args below meth c A Z hX hA hret
  refine zb_aload0 0 hX dX7_init_0 rfl ?_
  refine zb_obj hX dX7_init_1 obX7 zb_oi ⟨(Nat.le_of_ble_eq_true rfl), (Nat.le_of_ble_eq_true rfl)⟩ ?_
  refine zb_aload0 0 hX dX7_init_4 rfl ?_
  refine zb_iconst (v := (4 : Int32)) hX dX7_init_5 (by decide) ?_
  refine zb_newa (ty := .int) (N := 4) (t0 := 0) (a0 := .inl (fun _ => 0)) hX hA dX7_init_6 rfl rfl (fun h => h) zb_aint (fun _ => rfl) (by decide) (by decide) (by decide) (Nat.le_of_ble_eq_true rfl) (Nat.le_of_ble_eq_true rfl) (fun q1 => ?_)
  refine zb_ws (ws' := [(h0, .inr (7, [.null, .null, .null, .null, .null, .null, .null, .null, .int 0])), (q1, .inl (ca .int, 4, .inl (fun _ => 0)))]) rfl ?_
  refine zb_dup hX dX7_init_8 rfl ?_
  refine zb_iconst (v := (0 : Int32)) hX dX7_init_9 (by decide) ?_
  refine zb_iconst (v := (5 : Int32)) hX dX7_init_10 (by decide) ?_
  refine zb_iast (q0 := 1) hX dX7_init_11 rfl (vp_in_nI (n := 0) (by decide) (by decide)) ?_
  refine zb_ws (ws' := [(h0, .inr (7, [.null, .null, .null, .null, .null, .null, .null, .null, .int 0])), (q1, .inl (ca .int, 4, .inl (upd (fun _ => 0) (((0 : Int32)).toNatClampNeg) (5 : Int32))))]) rfl ?_
  refine zb_dup hX dX7_init_12 rfl ?_
  refine zb_iconst (v := (1 : Int32)) hX dX7_init_13 (by decide) ?_
  refine zb_sipush (v := (999 : Int32)) hX dX7_init_14 (by decide) ?_
  refine zb_iast (q0 := 1) hX dX7_init_17 rfl (vp_in_nI (n := 1) (by decide) (by decide)) ?_
  refine zb_ws (ws' := [(h0, .inr (7, [.null, .null, .null, .null, .null, .null, .null, .null, .int 0])), (q1, .inl (ca .int, 4, .inl (upd (upd (fun _ => 0) (((0 : Int32)).toNatClampNeg) (5 : Int32)) (((1 : Int32)).toNatClampNeg) (999 : Int32))))]) rfl ?_
  refine zb_dup hX dX7_init_18 rfl ?_
  refine zb_iconst (v := (2 : Int32)) hX dX7_init_19 (by decide) ?_
  refine zb_iconst (v := (0 : Int32)) hX dX7_init_20 (by decide) ?_
  refine zb_iast (q0 := 1) hX dX7_init_21 rfl (vp_in_nI (n := 2) (by decide) (by decide)) ?_
  refine zb_ws (ws' := [(h0, .inr (7, [.null, .null, .null, .null, .null, .null, .null, .null, .int 0])), (q1, .inl (ca .int, 4, .inl (upd (upd (upd (fun _ => 0) (((0 : Int32)).toNatClampNeg) (5 : Int32)) (((1 : Int32)).toNatClampNeg) (999 : Int32)) (((2 : Int32)).toNatClampNeg) (0 : Int32))))]) rfl ?_
  refine zb_dup hX dX7_init_22 rfl ?_
  refine zb_iconst (v := (3 : Int32)) hX dX7_init_23 (by decide) ?_
  refine zb_iconst (v := (0 : Int32)) hX dX7_init_24 (by decide) ?_
  refine zb_iast (q0 := 1) hX dX7_init_25 rfl (vp_in_nI (n := 3) (by decide) (by decide)) ?_
  refine zb_ws (ws' := [(h0, .inr (7, [.null, .null, .null, .null, .null, .null, .null, .null, .int 0])), (q1, .inl (ca .int, 4, .inl (upd (upd (upd (upd (fun _ => 0) (((0 : Int32)).toNatClampNeg) (5 : Int32)) (((1 : Int32)).toNatClampNeg) (999 : Int32)) (((2 : Int32)).toNatClampNeg) (0 : Int32)) (((3 : Int32)).toNatClampNeg) (0 : Int32))))]) rfl ?_
  refine zb_putF (q0 := 0) (j := 0) (ty := (tyX7 0)) hX dX7_init_26 clX7 fiX7_9 (Nat.le_of_ble_eq_true rfl) rfl rfl rfl (by decide +kernel) rfl rfl (Nat.le_of_ble_eq_true rfl) ?_
  refine zb_ws (ws' := [(h0, .inr (7, [.ref q1, .null, .null, .null, .null, .null, .null, .null, .int 0])), (q1, .inl (ca .int, 4, .inl (upd (upd (upd (upd (fun _ => 0) (((0 : Int32)).toNatClampNeg) (5 : Int32)) (((1 : Int32)).toNatClampNeg) (999 : Int32)) (((2 : Int32)).toNatClampNeg) (0 : Int32)) (((3 : Int32)).toNatClampNeg) (0 : Int32))))]) rfl ?_
  refine zb_aload0 0 hX dX7_init_29 rfl ?_
  refine zb_new (ci := 0) (fs := [.null, .null, .null, .null, .null, .null, .null, .null, .int 0, .int 0, .int 0, .int 0]) hX hA dX7_init_30 clX0 tyX0 tyX0_ok (zm_in 100 rfl rfl) (zm_in 101 rfl rfl) (zm_in 80 rfl rfl) (by decide) (Nat.le_of_ble_eq_true rfl) (Nat.le_of_ble_eq_true rfl) (fun q2 => ?_)
  refine zb_dup hX dX7_init_33 rfl ?_
  refine zb_call (host := "EasyToHard") hX hA dX7_init_34 mbX0_init ((zm_inN 102 rfl rfl)) k_X0_init ⟨(Nat.le_of_ble_eq_true rfl), (Nat.le_of_ble_eq_true rfl)⟩ (Nat.le_of_ble_eq_true rfl) (Nat.le_of_ble_eq_true rfl) (Nat.le_of_ble_eq_true rfl) (fun ad3 had => ?_)
  subst had
  refine zb_putF (q0 := 0) (j := 1) (ty := (tyX7 1)) hX dX7_init_37 clX7 fiX7_16 (Nat.le_of_ble_eq_true rfl) rfl rfl rfl (by decide +kernel) rfl rfl (Nat.le_of_ble_eq_true rfl) ?_
  refine zb_ws (ws' := ([(h0, .inr (7, [.ref q1, .ref (ad3 0), .null, .null, .null, .null, .null, .null, .int 0])), (q1, .inl (ca .int, 4, .inl (upd (upd (upd (upd (fun _ => 0) (((0 : Int32)).toNatClampNeg) (5 : Int32)) (((1 : Int32)).toNatClampNeg) (999 : Int32)) (((2 : Int32)).toNatClampNeg) (0 : Int32)) (((3 : Int32)).toNatClampNeg) (0 : Int32))))] ++ zm_W zb_H0 ca ad3 zb_w0)) rfl ?_
  refine zb_aload0 0 hX dX7_init_40 rfl ?_
  refine zb_new (ci := 2) (fs := [.null, .null, .null, .int 0, .int 0, .int 0]) hX hA dX7_init_41 clX2 tyX2 tyX2_ok (zm_in 151 rfl rfl) (zm_in 152 rfl rfl) (zm_in 81 rfl rfl) (by decide) (Nat.le_of_ble_eq_true rfl) (Nat.le_of_ble_eq_true rfl) (fun q4 => ?_)
  refine zb_dup hX dX7_init_44 rfl ?_
  refine zb_call (host := "EasyToHard") hX hA dX7_init_45 mbX2_init ((zm_inN 153 rfl rfl)) k_X2_init ⟨(Nat.le_of_ble_eq_true rfl), (Nat.le_of_ble_eq_true rfl)⟩ (Nat.le_of_ble_eq_true rfl) (Nat.le_of_ble_eq_true rfl) (Nat.le_of_ble_eq_true rfl) (fun ad5 had => ?_)
  subst had
  refine zb_putF (q0 := 0) (j := 2) (ty := (tyX7 2)) hX dX7_init_48 clX7 fiX7_23 (Nat.le_of_ble_eq_true rfl) rfl rfl rfl (by decide +kernel) rfl rfl (Nat.le_of_ble_eq_true rfl) ?_
  refine zb_ws (ws' := (([(h0, .inr (7, [.ref q1, .ref (ad3 0), .ref (ad5 0), .null, .null, .null, .null, .null, .int 0])), (q1, .inl (ca .int, 4, .inl (upd (upd (upd (upd (fun _ => 0) (((0 : Int32)).toNatClampNeg) (5 : Int32)) (((1 : Int32)).toNatClampNeg) (999 : Int32)) (((2 : Int32)).toNatClampNeg) (0 : Int32)) (((3 : Int32)).toNatClampNeg) (0 : Int32))))] ++ zm_W zb_H0 ca ad3 zb_w0) ++ zm_W zb_H2 ca ad5 zb_w2)) rfl ?_
  refine zb_aload0 0 hX dX7_init_51 rfl ?_
  refine zb_new (ci := 4) (fs := [.null, .null, .null, .null, .null, .null, .null, .int 0, .int 0, .int 0, .int 0, .int 0, .int 0, .int 0, .int 0, .int 0]) hX hA dX7_init_52 clX4 tyX4 tyX4_ok (zm_in 180 rfl rfl) (zm_in 181 rfl rfl) (zm_in 82 rfl rfl) (by decide) (Nat.le_of_ble_eq_true rfl) (Nat.le_of_ble_eq_true rfl) (fun q6 => ?_)
  refine zb_dup hX dX7_init_55 rfl ?_
  refine zb_call (host := "EasyToHard") hX hA dX7_init_56 mbX4_init ((zm_inN 182 rfl rfl)) k_X4_init ⟨(Nat.le_of_ble_eq_true rfl), (Nat.le_of_ble_eq_true rfl)⟩ (Nat.le_of_ble_eq_true rfl) (Nat.le_of_ble_eq_true rfl) (Nat.le_of_ble_eq_true rfl) (fun ad7 had => ?_)
  subst had
  refine zb_putF (q0 := 0) (j := 3) (ty := (tyX7 3)) hX dX7_init_59 clX7 fiX7_30 (Nat.le_of_ble_eq_true rfl) rfl rfl rfl (by decide +kernel) rfl rfl (Nat.le_of_ble_eq_true rfl) ?_
  refine zb_ws (ws' := ((([(h0, .inr (7, [.ref q1, .ref (ad3 0), .ref (ad5 0), .ref (ad7 0), .null, .null, .null, .null, .int 0])), (q1, .inl (ca .int, 4, .inl (upd (upd (upd (upd (fun _ => 0) (((0 : Int32)).toNatClampNeg) (5 : Int32)) (((1 : Int32)).toNatClampNeg) (999 : Int32)) (((2 : Int32)).toNatClampNeg) (0 : Int32)) (((3 : Int32)).toNatClampNeg) (0 : Int32))))] ++ zm_W zb_H0 ca ad3 zb_w0) ++ zm_W zb_H2 ca ad5 zb_w2) ++ zm_W zb_H4 ca ad7 zb_w4)) rfl ?_
  refine zb_aload0 0 hX dX7_init_62 rfl ?_
  refine zb_new (ci := 6) (fs := [.null, .null, .null, .null, .int 0, .int 0, .int 0, .int 0]) hX hA dX7_init_63 clX6 tyX6 tyX6_ok (zm_in 240 rfl rfl) (zm_in 241 rfl rfl) (zm_in 83 rfl rfl) (by decide) (Nat.le_of_ble_eq_true rfl) (Nat.le_of_ble_eq_true rfl) (fun q8 => ?_)
  refine zb_dup hX dX7_init_66 rfl ?_
  refine zb_call (host := "EasyToHard") hX hA dX7_init_67 mbX6_init ((zm_inN 242 rfl rfl)) k_X6_init ⟨(Nat.le_of_ble_eq_true rfl), (Nat.le_of_ble_eq_true rfl)⟩ (Nat.le_of_ble_eq_true rfl) (Nat.le_of_ble_eq_true rfl) (Nat.le_of_ble_eq_true rfl) (fun ad9 had => ?_)
  subst had
  refine zb_putF (q0 := 0) (j := 4) (ty := (tyX7 4)) hX dX7_init_70 clX7 fiX7_37 (Nat.le_of_ble_eq_true rfl) rfl rfl rfl (by decide +kernel) rfl rfl (Nat.le_of_ble_eq_true rfl) ?_
  refine zb_ws (ws' := (((([(h0, .inr (7, [.ref q1, .ref (ad3 0), .ref (ad5 0), .ref (ad7 0), .ref (ad9 0), .null, .null, .null, .int 0])), (q1, .inl (ca .int, 4, .inl (upd (upd (upd (upd (fun _ => 0) (((0 : Int32)).toNatClampNeg) (5 : Int32)) (((1 : Int32)).toNatClampNeg) (999 : Int32)) (((2 : Int32)).toNatClampNeg) (0 : Int32)) (((3 : Int32)).toNatClampNeg) (0 : Int32))))] ++ zm_W zb_H0 ca ad3 zb_w0) ++ zm_W zb_H2 ca ad5 zb_w2) ++ zm_W zb_H4 ca ad7 zb_w4) ++ zm_W zb_H6 ca ad9 zb_w6)) rfl ?_
  refine zb_aload0 0 hX dX7_init_73 rfl ?_
  refine zb_new (ci := 1) (fs := [.null, .int 0, .int 0]) hX hA dX7_init_74 clX1 tyX1 tyX1_ok (zm_in 283 rfl rfl) (zm_in 284 rfl rfl) (zm_in 84 rfl rfl) (by decide) (Nat.le_of_ble_eq_true rfl) (Nat.le_of_ble_eq_true rfl) (fun q10 => ?_)
  refine zb_dup hX dX7_init_77 rfl ?_
  refine zb_call (host := "EasyToHard") hX hA dX7_init_78 mbX1_init ((zm_inN 285 rfl rfl)) k_X1_init ⟨(Nat.le_of_ble_eq_true rfl), (Nat.le_of_ble_eq_true rfl)⟩ (Nat.le_of_ble_eq_true rfl) (Nat.le_of_ble_eq_true rfl) (Nat.le_of_ble_eq_true rfl) (fun ad11 had => ?_)
  subst had
  refine zb_putF (q0 := 0) (j := 5) (ty := (tyX7 5)) hX dX7_init_81 clX7 fiX7_44 (Nat.le_of_ble_eq_true rfl) rfl rfl rfl (by decide +kernel) rfl rfl (Nat.le_of_ble_eq_true rfl) ?_
  refine zb_ws (ws' := ((((([(h0, .inr (7, [.ref q1, .ref (ad3 0), .ref (ad5 0), .ref (ad7 0), .ref (ad9 0), .ref (ad11 0), .null, .null, .int 0])), (q1, .inl (ca .int, 4, .inl (upd (upd (upd (upd (fun _ => 0) (((0 : Int32)).toNatClampNeg) (5 : Int32)) (((1 : Int32)).toNatClampNeg) (999 : Int32)) (((2 : Int32)).toNatClampNeg) (0 : Int32)) (((3 : Int32)).toNatClampNeg) (0 : Int32))))] ++ zm_W zb_H0 ca ad3 zb_w0) ++ zm_W zb_H2 ca ad5 zb_w2) ++ zm_W zb_H4 ca ad7 zb_w4) ++ zm_W zb_H6 ca ad9 zb_w6) ++ zm_W zb_H1 ca ad11 zb_w1)) rfl ?_
  refine zb_aload0 0 hX dX7_init_84 rfl ?_
  refine zb_new (ci := 3) (fs := [.null, .null, .null, .int 0, .int 0, .int 0]) hX hA dX7_init_85 clX3 tyX3 tyX3_ok (zm_in 299 rfl rfl) (zm_in 300 rfl rfl) (zm_in 85 rfl rfl) (by decide) (Nat.le_of_ble_eq_true rfl) (Nat.le_of_ble_eq_true rfl) (fun q12 => ?_)
  refine zb_dup hX dX7_init_88 rfl ?_
  refine zb_call (host := "EasyToHard") hX hA dX7_init_89 mbX3_init ((zm_inN 301 rfl rfl)) k_X3_init ⟨(Nat.le_of_ble_eq_true rfl), (Nat.le_of_ble_eq_true rfl)⟩ (Nat.le_of_ble_eq_true rfl) (Nat.le_of_ble_eq_true rfl) (Nat.le_of_ble_eq_true rfl) (fun ad13 had => ?_)
  subst had
  refine zb_putF (q0 := 0) (j := 6) (ty := (tyX7 6)) hX dX7_init_92 clX7 fiX7_51 (Nat.le_of_ble_eq_true rfl) rfl rfl rfl (by decide +kernel) rfl rfl (Nat.le_of_ble_eq_true rfl) ?_
  refine zb_ws (ws' := (((((([(h0, .inr (7, [.ref q1, .ref (ad3 0), .ref (ad5 0), .ref (ad7 0), .ref (ad9 0), .ref (ad11 0), .ref (ad13 0), .null, .int 0])), (q1, .inl (ca .int, 4, .inl (upd (upd (upd (upd (fun _ => 0) (((0 : Int32)).toNatClampNeg) (5 : Int32)) (((1 : Int32)).toNatClampNeg) (999 : Int32)) (((2 : Int32)).toNatClampNeg) (0 : Int32)) (((3 : Int32)).toNatClampNeg) (0 : Int32))))] ++ zm_W zb_H0 ca ad3 zb_w0) ++ zm_W zb_H2 ca ad5 zb_w2) ++ zm_W zb_H4 ca ad7 zb_w4) ++ zm_W zb_H6 ca ad9 zb_w6) ++ zm_W zb_H1 ca ad11 zb_w1) ++ zm_W zb_H3 ca ad13 zb_w3)) rfl ?_
  refine zb_aload0 0 hX dX7_init_95 rfl ?_
  refine zb_iconst (v := (4 : Int32)) hX dX7_init_96 (by decide) ?_
  refine zb_newq (N := 4) hX hA dX7_init_97 (zm_in 328 rfl rfl) (by decide) (by decide) (by decide) (Nat.le_of_ble_eq_true rfl) (Nat.le_of_ble_eq_true rfl) (fun q14 => ?_)
  refine zb_ws (List.append_nil _).symm ?_
  refine zb_putF (q0 := 0) (j := 7) (ty := (tyX7 7)) hX dX7_init_100 clX7 fiX7_57 (Nat.le_of_ble_eq_true rfl) rfl rfl rfl (by decide +kernel) rfl rfl (Nat.le_of_ble_eq_true rfl) ?_
  refine zb_ws (ws' := (((((((([(h0, .inr (7, [.ref q1, .ref (ad3 0), .ref (ad5 0), .ref (ad7 0), .ref (ad9 0), .ref (ad11 0), .ref (ad13 0), .ref q14, .int 0])), (q1, .inl (ca .int, 4, .inl (upd (upd (upd (upd (fun _ => 0) (((0 : Int32)).toNatClampNeg) (5 : Int32)) (((1 : Int32)).toNatClampNeg) (999 : Int32)) (((2 : Int32)).toNatClampNeg) (0 : Int32)) (((3 : Int32)).toNatClampNeg) (0 : Int32))))] ++ zm_W zb_H0 ca ad3 zb_w0) ++ zm_W zb_H2 ca ad5 zb_w2) ++ zm_W zb_H4 ca ad7 zb_w4) ++ zm_W zb_H6 ca ad9 zb_w6) ++ zm_W zb_H1 ca ad11 zb_w1) ++ zm_W zb_H3 ca ad13 zb_w3) ++ [(q14, .inl (ca (.object RX5), 4, .inr (.inr (.inr (.inr (fun _ => none))))))]) ++ [])) rfl ?_
  refine zb_iconst (v := (0 : Int32)) hX dX7_init_103 (by decide) ?_
  refine zb_istore_n (ls' := [(1, .int (0 : Int32)), (0, .ref h0)]) hX dX7_init_104 rfl (Nat.le_of_ble_eq_true rfl) rfl ?_
  refine zb_iload_n (x := (0 : Int32)) 0 hX dX7_init_105 rfl rfl ?_
  refine zb_iconst (v := (4 : Int32)) hX dX7_init_106 (by decide) ?_
  refine zb_icmp_ge 129 hX dX7_init_107 (by decide) (fun h => absurd h (by decide)) (fun _ => ?_)
  refine zb_aload0 1 hX dX7_init_110 rfl ?_
  refine zb_getf (q0 := 0) (j := 7) (v := .ref q14) hX dX7_init_111 clX7 fiX7_57 (Nat.le_of_ble_eq_true rfl) rfl rfl ?_
  refine zb_iload_n (x := (0 : Int32)) 0 hX dX7_init_114 rfl rfl ?_
  refine zb_new (ci := 5) (fs := [.null, .int 0, .int 0, .int 0]) hX hA dX7_init_115 clX5 tyX5 tyX5_ok (zm_in 328 rfl rfl) (zm_in 330 rfl rfl) (zm_in 86 rfl rfl) (by decide) (Nat.le_of_ble_eq_true rfl) (Nat.le_of_ble_eq_true rfl) (fun q15 => ?_)
  refine zb_dup hX dX7_init_118 rfl ?_
  refine zb_call (host := "EasyToHard") hX hA dX7_init_119 mbX5_init ((zm_inN 331 rfl rfl)) k_X5_init ⟨(Nat.le_of_ble_eq_true rfl), (Nat.le_of_ble_eq_true rfl)⟩ (Nat.le_of_ble_eq_true rfl) (Nat.le_of_ble_eq_true rfl) (Nat.le_of_ble_eq_true rfl) (fun ad16 had => ?_)
  subst had
  refine zb_astS hX dX7_init_122 rfl (vp_in_nI (n := 0) (by decide) (by decide)) ?_
  refine zb_iinc (j := 0) (x := (0 : Int32)) (v := (1 : Int32)) (ls' := [(1, .int (1 : Int32)), (0, .ref h0)]) hX dX7_init_123 rfl (by decide) (Nat.le_of_ble_eq_true rfl) rfl ?_
  refine zb_goto 105 hX dX7_init_126 (by decide) ?_
  refine zb_iload_n (x := (1 : Int32)) 0 hX dX7_init_105 rfl rfl ?_
  refine zb_iconst (v := (4 : Int32)) hX dX7_init_106 (by decide) ?_
  refine zb_icmp_ge 129 hX dX7_init_107 (by decide) (fun h => absurd h (by decide)) (fun _ => ?_)
  refine zb_aload0 1 hX dX7_init_110 rfl ?_
  refine zb_getf (q0 := 0) (j := 7) (v := .ref q14) hX dX7_init_111 clX7 fiX7_57 (Nat.le_of_ble_eq_true rfl) rfl rfl ?_
  refine zb_iload_n (x := (1 : Int32)) 0 hX dX7_init_114 rfl rfl ?_
  refine zb_new (ci := 5) (fs := [.null, .int 0, .int 0, .int 0]) hX hA dX7_init_115 clX5 tyX5 tyX5_ok (zm_in 328 rfl rfl) (zm_in 330 rfl rfl) (zm_in 86 rfl rfl) (by decide) (Nat.le_of_ble_eq_true rfl) (Nat.le_of_ble_eq_true rfl) (fun q17 => ?_)
  refine zb_dup hX dX7_init_118 rfl ?_
  refine zb_call (host := "EasyToHard") hX hA dX7_init_119 mbX5_init ((zm_inN 331 rfl rfl)) k_X5_init ⟨(Nat.le_of_ble_eq_true rfl), (Nat.le_of_ble_eq_true rfl)⟩ (Nat.le_of_ble_eq_true rfl) (Nat.le_of_ble_eq_true rfl) (Nat.le_of_ble_eq_true rfl) (fun ad18 had => ?_)
  subst had
  refine zb_astS hX dX7_init_122 rfl (vp_in_nI (n := 1) (by decide) (by decide)) ?_
  refine zb_iinc (j := 0) (x := (1 : Int32)) (v := (2 : Int32)) (ls' := [(1, .int (2 : Int32)), (0, .ref h0)]) hX dX7_init_123 rfl (by decide) (Nat.le_of_ble_eq_true rfl) rfl ?_
  refine zb_goto 105 hX dX7_init_126 (by decide) ?_
  refine zb_iload_n (x := (2 : Int32)) 0 hX dX7_init_105 rfl rfl ?_
  refine zb_iconst (v := (4 : Int32)) hX dX7_init_106 (by decide) ?_
  refine zb_icmp_ge 129 hX dX7_init_107 (by decide) (fun h => absurd h (by decide)) (fun _ => ?_)
  refine zb_aload0 1 hX dX7_init_110 rfl ?_
  refine zb_getf (q0 := 0) (j := 7) (v := .ref q14) hX dX7_init_111 clX7 fiX7_57 (Nat.le_of_ble_eq_true rfl) rfl rfl ?_
  refine zb_iload_n (x := (2 : Int32)) 0 hX dX7_init_114 rfl rfl ?_
  refine zb_new (ci := 5) (fs := [.null, .int 0, .int 0, .int 0]) hX hA dX7_init_115 clX5 tyX5 tyX5_ok (zm_in 328 rfl rfl) (zm_in 330 rfl rfl) (zm_in 86 rfl rfl) (by decide) (Nat.le_of_ble_eq_true rfl) (Nat.le_of_ble_eq_true rfl) (fun q19 => ?_)
  refine zb_dup hX dX7_init_118 rfl ?_
  refine zb_call (host := "EasyToHard") hX hA dX7_init_119 mbX5_init ((zm_inN 331 rfl rfl)) k_X5_init ⟨(Nat.le_of_ble_eq_true rfl), (Nat.le_of_ble_eq_true rfl)⟩ (Nat.le_of_ble_eq_true rfl) (Nat.le_of_ble_eq_true rfl) (Nat.le_of_ble_eq_true rfl) (fun ad20 had => ?_)
  subst had
  refine zb_astS hX dX7_init_122 rfl (vp_in_nI (n := 2) (by decide) (by decide)) ?_
  refine zb_iinc (j := 0) (x := (2 : Int32)) (v := (3 : Int32)) (ls' := [(1, .int (3 : Int32)), (0, .ref h0)]) hX dX7_init_123 rfl (by decide) (Nat.le_of_ble_eq_true rfl) rfl ?_
  refine zb_goto 105 hX dX7_init_126 (by decide) ?_
  refine zb_iload_n (x := (3 : Int32)) 0 hX dX7_init_105 rfl rfl ?_
  refine zb_iconst (v := (4 : Int32)) hX dX7_init_106 (by decide) ?_
  refine zb_icmp_ge 129 hX dX7_init_107 (by decide) (fun h => absurd h (by decide)) (fun _ => ?_)
  refine zb_aload0 1 hX dX7_init_110 rfl ?_
  refine zb_getf (q0 := 0) (j := 7) (v := .ref q14) hX dX7_init_111 clX7 fiX7_57 (Nat.le_of_ble_eq_true rfl) rfl rfl ?_
  refine zb_iload_n (x := (3 : Int32)) 0 hX dX7_init_114 rfl rfl ?_
  refine zb_new (ci := 5) (fs := [.null, .int 0, .int 0, .int 0]) hX hA dX7_init_115 clX5 tyX5 tyX5_ok (zm_in 328 rfl rfl) (zm_in 330 rfl rfl) (zm_in 86 rfl rfl) (by decide) (Nat.le_of_ble_eq_true rfl) (Nat.le_of_ble_eq_true rfl) (fun q21 => ?_)
  refine zb_dup hX dX7_init_118 rfl ?_
  refine zb_call (host := "EasyToHard") hX hA dX7_init_119 mbX5_init ((zm_inN 331 rfl rfl)) k_X5_init ⟨(Nat.le_of_ble_eq_true rfl), (Nat.le_of_ble_eq_true rfl)⟩ (Nat.le_of_ble_eq_true rfl) (Nat.le_of_ble_eq_true rfl) (Nat.le_of_ble_eq_true rfl) (fun ad22 had => ?_)
  subst had
  refine zb_astS hX dX7_init_122 rfl (vp_in_nI (n := 3) (by decide) (by decide)) ?_
  refine zb_iinc (j := 0) (x := (3 : Int32)) (v := (4 : Int32)) (ls' := [(1, .int (4 : Int32)), (0, .ref h0)]) hX dX7_init_123 rfl (by decide) (Nat.le_of_ble_eq_true rfl) rfl ?_
  refine zb_goto 105 hX dX7_init_126 (by decide) ?_
  refine zb_iload_n (x := (4 : Int32)) 0 hX dX7_init_105 rfl rfl ?_
  refine zb_iconst (v := (4 : Int32)) hX dX7_init_106 (by decide) ?_
  refine zb_icmp_ge 129 hX dX7_init_107 (by decide) (fun _ => ?_) (fun h => absurd (by decide) h)
  refine zb_ws (zc_E h0 q1 q14 ad3 ad5 ad7 ad9 ad11 ad13 ad16 ad18 ad20 ad22 ca) ?_
  exact zb_widen (Nat.le_of_ble_eq_true rfl) (Nat.le_of_ble_eq_true rfl) (hret 129 _ (fun k => ([h0, q1, ad3 0, ad3 1, ad3 2, ad3 3, ad3 4, ad3 5, ad3 6, ad3 7, ad3 8, ad5 0, ad5 1, ad5 2, ad5 3, ad7 0, ad7 1, ad7 2, ad7 3, ad7 4, ad7 5, ad7 6, ad7 7, ad9 0, ad9 1, ad9 2, ad9 3, ad9 4, ad11 0, ad11 1, ad13 0, ad13 1, ad13 2, ad13 3, ad13 4, ad13 5, ad13 6, ad13 7, ad13 8, q14, ad16 0, ad16 1, ad18 0, ad18 1, ad20 0, ad20 1, ad22 0, ad22 1] : List Nat).getD k 0) dX7_init_129 rfl)
