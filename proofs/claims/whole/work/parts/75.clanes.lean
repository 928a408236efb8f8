/-! ===== lanes ===== -/
def zk (X : Nat → Nat) : Nat → Nat := fb_sm (fun p => X p * 16 ^ p)
theorem zk_1 (X : Nat → Nat) (m : Nat) : zk X (m + 1) = zk X m + X m * 16 ^ m := fb_sm_succ _ _
theorem zk_lt {X : Nat → Nat} : ∀ {m : Nat}, (∀ p, p < m → X p < 16) → zk X m < 2 ^ (4 * m)
  | 0, _ => Nat.one_pos
  | m + 1, h => by
    have ih := zk_lt (m := m) (fun p hp => h p (by omega))
    have hm := h m (by omega)
    have e : (16 : Nat) ^ m = 2 ^ (4 * m) := by rw [Nat.pow_mul]
    rw [zk_1, e, show 4 * (m + 1) = 4 * m + 4 by omega, Nat.pow_add]
    have : X m * 2 ^ (4 * m) ≤ 15 * 2 ^ (4 * m) := Nat.mul_le_mul_right _ (by omega)
    omega
theorem zk_bit {X : Nat → Nat} : ∀ {m : Nat}, (∀ p, p < m → X p < 16) → ∀ i, (zk X m).testBit i = (decide (i < 4 * m) && (X (i / 4)).testBit (i % 4))
  | 0, _, i => by simp [zk, fb_sm]
  | m + 1, h, i => by
    have ih := zk_bit (m := m) (fun p hp => h p (by omega)) i
    have hm := h m (by omega)
    have hl := zk_lt (X := X) (m := m) (fun p hp => h p (by omega))
    have e : (16 : Nat) ^ m = 2 ^ (4 * m) := by rw [Nat.pow_mul]
    rw [zk_1, e, Nat.add_comm, Nat.mul_comm, Nat.testBit_two_pow_mul_add _ hl]
    by_cases c : i < 4 * m
    · have c2 : i < 4 * (m + 1) := by omega
      rw [if_pos c, ih]
      simp [c, c2]
    · rw [if_neg c]
      by_cases c2 : i < 4 * (m + 1)
      · rw [show i / 4 = m by omega, show i % 4 = i - 4 * m by omega]
        simp [c2]
      · rw [Nat.testBit_lt_two_pow (Nat.lt_of_lt_of_le hm (Nat.pow_le_pow_right (n := 2) (i := 4) (by decide) (by omega)))]
        simp [c2]
theorem zk_cong {X Y : Nat → Nat} {m : Nat} (h : ∀ p, p < m → X p = Y p) : zk X m = zk Y m := fb_sm_cong (fun p hp => by rw [h p hp])
theorem zk_and {X Y : Nat → Nat} {m k : Nat} (hm : m ≤ k) (hX : ∀ p, p < m → X p < 16) (hY : ∀ p, p < k → Y p < 16) : zk X m &&& zk Y k = zk (fun p => X p &&& Y p) m := by
  apply Nat.eq_of_testBit_eq
  intro i
  rw [Nat.testBit_and, zk_bit hX, zk_bit hY, zk_bit (fun p hp => Nat.lt_of_le_of_lt Nat.and_le_left (hX p hp)), Nat.testBit_and]
  by_cases c : i < 4 * m
  · have : i < 4 * k := by omega
    simp [c, this]
  · simp [c]
theorem zk_or {X Y : Nat → Nat} {m : Nat} (hX : ∀ p, p < m → X p < 16) (hY : ∀ p, p < m → Y p < 16) : zk X m ||| zk Y m = zk (fun p => X p ||| Y p) m := by
  apply Nat.eq_of_testBit_eq
  intro i
  rw [Nat.testBit_or, zk_bit hX, zk_bit hY, zk_bit (fun p hp => Nat.or_lt_two_pow (n := 4) (hX p hp) (hY p hp)), Nat.testBit_or]
  by_cases c : i < 4 * m <;> simp [c]
theorem zk_xor {X Y : Nat → Nat} {m : Nat} (hX : ∀ p, p < m → X p < 16) (hY : ∀ p, p < m → Y p < 16) : zk X m ^^^ zk Y m = zk (fun p => X p ^^^ Y p) m := by
  apply Nat.eq_of_testBit_eq
  intro i
  rw [Nat.testBit_xor, zk_bit hX, zk_bit hY, zk_bit (fun p hp => Nat.xor_lt_two_pow (n := 4) (hX p hp) (hY p hp)), Nat.testBit_xor]
  by_cases c : i < 4 * m <;> simp [c]
theorem zk_add (X Y : Nat → Nat) (m : Nat) : zk X m + zk Y m = zk (fun p => X p + Y p) m := by
  unfold zk
  rw [← fb_sm_add]
  exact fb_sm_cong (fun p _ => by rw [Nat.add_mul])
theorem zk_sub {X Y : Nat → Nat} {m : Nat} (h : ∀ p, p < m → Y p ≤ X p) : zk X m - zk Y m = zk (fun p => X p - Y p) m ∧ zk Y m ≤ zk X m := by
  have e : zk Y m + zk (fun p => X p - Y p) m = zk X m := by
    rw [zk_add]
    exact zk_cong (fun p hp => by have := h p hp; omega)
  omega
theorem zk_mul (c : Nat) (X : Nat → Nat) (m : Nat) : zk (fun p => c * X p) m = c * zk X m := by
  induction m with
  | zero => rfl
  | succ m ih => rw [zk_1, zk_1, ih, Nat.mul_add, Nat.mul_assoc]
theorem zk_0 (X : Nat → Nat) : ∀ m, zk X (m + 1) = X 0 + 16 * zk (fun p => X (p + 1)) m
  | 0 => by simp [zk, fb_sm]
  | m + 1 => by
    rw [zk_1, zk_0 X m, zk_1, Nat.mul_add, Nat.pow_succ, Nat.add_assoc]
    congr 2
    rw [Nat.mul_comm (16 ^ m) 16, Nat.mul_left_comm]
theorem zl_notg (x h : Int64) : x &&& (h ^^^ (-1)) = x ^^^ (x &&& h) := by
  apply Int64.toBitVec_inj.mp
  simp only [Int64.toBitVec_and, Int64.toBitVec_xor]
  apply BitVec.eq_of_getLsbD_eq
  intro i hi
  have e : (Int64.toBitVec (-1)).getLsbD i = true := by
    have : Int64.toBitVec (-1) = BitVec.allOnes 64 := by decide
    rw [this, BitVec.getLsbD_allOnes]
    exact decide_eq_true hi
  simp only [BitVec.getLsbD_and, BitVec.getLsbD_xor, e]
  cases x.toBitVec.getLsbD i <;> cases h.toBitVec.getLsbD i <;> rfl
theorem zk_free : (150119987579016 : Nat) = zk (fun _ => 8) 12 := by decide
theorem zk_m1 : ∀ x, x ≤ 7 → x ||| 8 = x + 8 := by decide
theorem zk_m2 : ∀ x, x ≤ 7 → ∀ y, y ≤ 7 → (x + 8 - y) &&& 8 = 8 * (if y ≤ x then 1 else 0) := by decide
theorem zk_m3 : ∀ x, x ≤ 7 → ∀ y, y ≤ 7 → (y &&& (7 * (if y ≤ x then 1 else 0))) ||| (x ^^^ (x &&& (7 * (if y ≤ x then 1 else 0)))) = min x y := by decide
theorem zk_sh3 {n : Nat} (h : n < 2 ^ 48) : ((lN (8 * n)).toUInt64 >>> ((3 : Int32).toInt64.toUInt64 &&& Int64.toUInt64 63)).toInt64 = lN n := by
  have := wb_shr (n := 8 * n) (k := 3) (by omega) (by decide)
  rw [show (nI 3 : Int32) = 3 from rfl] at this
  rw [this, show 2 ^ 3 = 8 from rfl, Nat.mul_div_cancel_left _ (by decide)]
theorem k_lesser {d : Nat} {w : zm_S} {X Y : Nat → Nat} (hX : ∀ p, p < 12 → X p ≤ 7) (hY : ∀ p, p < 12 → Y p ≤ 7) : zm_C zc_H d mX4_lesser [.long (lN (zk X 12)), .long (lN (zk Y 12))] w (zq (.long (lN (zk (fun p => min (X p) (Y p)) 12))) w) := by
  refine zm_C.of mtX4_lesser.1.2.2.2.2.2.2 rfl (Nat.le_of_ble_eq_true rfl) ?_
  refine gX4_lesser_0 ?_
  have x16 : ∀ p, p < 12 → X p < 16 := fun p hp => by have := hX p hp; omega
  have y16 : ∀ p, p < 12 → Y p < 16 := fun p hp => by have := hY p hp; omega
  have e1 : lN (zk X 12) ||| 150119987579016 = lN (zk (fun p => X p + 8) 12) := by
    rw [show (150119987579016 : Int64) = lN 150119987579016 from rfl, zk_free, fb_orL, zk_or x16 (fun _ _ => by decide)]
    congr 1
    exact zk_cong (fun p hp => zk_m1 _ (hX p hp))
  have e2 : lN (zk (fun p => X p + 8) 12) - lN (zk Y 12) = lN (zk (fun p => X p + 8 - Y p) 12) := by
    have := zk_sub (X := fun p => X p + 8) (Y := Y) (m := 12) (fun p hp => by have := hY p hp; show Y p ≤ X p + 8; omega)
    rw [lN_sub this.2, this.1]
  have e3 : lN (zk (fun p => X p + 8 - Y p) 12) &&& 150119987579016 = lN (8 * zk (fun p => if Y p ≤ X p then 1 else 0) 12) := by
    rw [show (150119987579016 : Int64) = lN 150119987579016 from rfl, zk_free, fb_andL, zk_and (Nat.le_refl _) (fun p hp => by have := hX p hp; show X p + 8 - Y p < 16; omega) (fun _ _ => by decide), ← zk_mul]
    congr 1
    exact zk_cong (fun p hp => zk_m2 _ (hX p hp) _ (hY p hp))
  have hl : zk (fun p => if Y p ≤ X p then 1 else 0) 12 < 2 ^ 48 := zk_lt (m := 12) (fun p _ => by show (if Y p ≤ X p then 1 else 0) < 16; split <;> decide)
  have e5 : lN (8 * zk (fun p => if Y p ≤ X p then 1 else 0) 12) - lN (zk (fun p => if Y p ≤ X p then 1 else 0) 12) = lN (zk (fun p => 7 * (if Y p ≤ X p then 1 else 0)) 12) := by
    rw [lN_sub (by omega), zk_mul]
    congr 1
    omega
  have t16 : ∀ p, p < 12 → 7 * (if Y p ≤ X p then 1 else 0) < 16 := fun p _ => by split <;> decide
  rw [e1, e2, e3, zk_sh3 hl, e5, zl_notg, fb_andL, fb_andL, fb_xorL, fb_orL, zk_and (Nat.le_refl _) y16 t16, zk_and (Nat.le_refl _) x16 t16, zk_xor x16 (fun p hp => Nat.lt_of_le_of_lt Nat.and_le_left (x16 p hp)), zk_or (fun p hp => Nat.lt_of_le_of_lt Nat.and_le_left (y16 p hp)) (fun p hp => Nat.xor_lt_two_pow (n := 4) (x16 p hp) (Nat.lt_of_le_of_lt Nat.and_le_left (x16 p hp)))]
  rw [zk_cong (Y := fun p => min (X p) (Y p)) (fun p hp => zk_m3 _ (hX p hp) _ (hY p hp))]
  exact zq_m _ _
theorem zk_x12 (Z : Nat → Nat) : zk Z 12 = 1 * Z 0 + 16 * Z 1 + 256 * Z 2 + 4096 * Z 3 + 65536 * Z 4 + 1048576 * Z 5 + 16777216 * Z 6 + 268435456 * Z 7 + 4294967296 * Z 8 + 68719476736 * Z 9 + 1099511627776 * Z 10 + 17592186044416 * Z 11 := by
  show 0 + Z 0 * 16 ^ 0 + Z 1 * 16 ^ 1 + Z 2 * 16 ^ 2 + Z 3 * 16 ^ 3 + Z 4 * 16 ^ 4 + Z 5 * 16 ^ 5 + Z 6 * 16 ^ 6 + Z 7 * 16 ^ 7 + Z 8 * 16 ^ 8 + Z 9 * 16 ^ 9 + Z 10 * 16 ^ 10 + Z 11 * 16 ^ 11 = _
  omega
theorem zk_x11 (Z : Nat → Nat) : zk Z 11 = 1 * Z 0 + 16 * Z 1 + 256 * Z 2 + 4096 * Z 3 + 65536 * Z 4 + 1048576 * Z 5 + 16777216 * Z 6 + 268435456 * Z 7 + 4294967296 * Z 8 + 68719476736 * Z 9 + 1099511627776 * Z 10 := by
  show 0 + Z 0 * 16 ^ 0 + Z 1 * 16 ^ 1 + Z 2 * 16 ^ 2 + Z 3 * 16 ^ 3 + Z 4 * 16 ^ 4 + Z 5 * 16 ^ 5 + Z 6 * 16 ^ 6 + Z 7 * 16 ^ 7 + Z 8 * 16 ^ 8 + Z 9 * 16 ^ 9 + Z 10 * 16 ^ 10 = _
  omega
theorem zk_tot (b0 b1 b2 b3 b4 b5 : Nat) (hb0 : b0 ≤ 14) (hb1 : b1 ≤ 14) (hb2 : b2 ≤ 14) (hb3 : b3 ≤ 14) (hb4 : b4 ≤ 14) (hb5 : b5 ≤ 14) : (1 * b0 + 256 * b1 + 65536 * b2 + 16777216 * b3 + 4294967296 * b4 + 1099511627776 * b5) * 72340172838076673 % 18446744073709551616 / 72057594037927936 = b0 + b1 + b2 + b3 + b4 + b5 := by
  have e : (1 * b0 + 256 * b1 + 65536 * b2 + 16777216 * b3 + 4294967296 * b4 + 1099511627776 * b5) * 72340172838076673 = 18446744073709551616 * (1 * b1 + 257 * b2 + 65793 * b3 + 16843009 * b4 + 4311810305 * b5) + (72057594037927936 * (b0 + b1 + b2 + b3 + b4 + b5) + (282578800148737 * b0 + 282578800148736 * b1 + 282578800148480 * b2 + 282578800082944 * b3 + 282578783305728 * b4 + 282574488338432 * b5)) := by omega
  have hL : 282578800148737 * b0 + 282578800148736 * b1 + 282578800148480 * b2 + 282578800082944 * b3 + 282578783305728 * b4 + 282574488338432 * b5 < 72057594037927936 := by omega
  rw [e, Nat.mul_add_mod, Nat.mod_eq_of_lt (by omega), Nat.mul_add_div (by decide), Nat.div_eq_of_lt hL, Nat.add_zero]
theorem zk_even : (1085102592571150095 : Nat) = zk (fun p => if p % 2 = 0 then 15 else 0) 16 := by decide
theorem zk_15 : ∀ x, x ≤ 7 → x &&& 15 = x := by decide
theorem zk_ev {m : Nat} (hm : m ≤ 16) {X : Nat → Nat} (hX : ∀ p, p < m → X p ≤ 7) : lN (zk X m) &&& 1085102592571150095 = lN (zk (fun p => if p % 2 = 0 then X p else 0) m) := by
  rw [show (1085102592571150095 : Int64) = lN 1085102592571150095 from rfl, zk_even, fb_andL, zk_and hm (fun p hp => by have := hX p hp; omega) (fun p _ => by split <;> decide)]
  congr 1
  refine zk_cong (fun p hp => ?_)
  show X p &&& (if p % 2 = 0 then 15 else 0) = if p % 2 = 0 then X p else 0
  by_cases c : p % 2 = 0
  · rw [if_pos c, if_pos c]; exact zk_15 _ (hX p hp)
  · rw [if_neg c, if_neg c]; exact Nat.and_zero _
theorem zk_sum12 (X : Nat → Nat) : fb_sm X 12 = X 0 + X 1 + X 2 + X 3 + X 4 + X 5 + X 6 + X 7 + X 8 + X 9 + X 10 + X 11 := by
  show 0 + X 0 + X 1 + X 2 + X 3 + X 4 + X 5 + X 6 + X 7 + X 8 + X 9 + X 10 + X 11 = _
  omega
theorem zk_sh4 {X : Nat → Nat} (hX : ∀ p, p < 12 → X p ≤ 7) : ((lN (zk X 12)).toUInt64 >>> ((4 : Int32).toInt64.toUInt64 &&& Int64.toUInt64 63)).toInt64 = lN (zk (fun p => X (p + 1)) 11) := by
  have hl := zk_lt (X := X) (m := 12) (fun p hp => by have := hX p hp; omega)
  have h := wb_shr (n := zk X 12) (k := 4) (by omega) (by decide)
  rw [show (nI 4 : Int32) = 4 from rfl] at h
  rw [h, zk_0 X 11]
  congr 1
  have := hX 0 (by decide)
  omega
theorem zk_sh56 (n : Nat) : ((lN n).toUInt64 >>> ((56 : Int32).toInt64.toUInt64 &&& Int64.toUInt64 63)).toInt64 = lN (n % 18446744073709551616 / 72057594037927936) := by
  have h := wb_shr (n := n % 2 ^ 64) (k := 56) (Nat.mod_lt _ (by decide)) (by decide)
  rw [show (nI 56 : Int32) = 56 from rfl] at h
  rw [wb_mod n, h]
theorem k_total {d : Nat} {w : zm_S} {X : Nat → Nat} (hX : ∀ p, p < 12 → X p ≤ 7) : zm_C zc_H d mX4_total [.long (lN (zk X 12))] w (zq (.int (nI (fb_sm X 12))) w) := by
  refine zm_C.of mtX4_total.1.2.2.2.2.2.2 rfl (Nat.le_of_ble_eq_true rfl) ?_
  refine gX4_total_0 ?_
  have h0 := hX 0 (by decide)
  have h1 := hX 1 (by decide)
  have h2 := hX 2 (by decide)
  have h3 := hX 3 (by decide)
  have h4 := hX 4 (by decide)
  have h5 := hX 5 (by decide)
  have h6 := hX 6 (by decide)
  have h7 := hX 7 (by decide)
  have h8 := hX 8 (by decide)
  have h9 := hX 9 (by decide)
  have h10 := hX 10 (by decide)
  have h11 := hX 11 (by decide)
  have eA : zk (fun p => if p % 2 = 0 then X p else 0) 12 + zk (fun p => if p % 2 = 0 then X (p + 1) else 0) 11 = 1 * (X 0 + X 1) + 256 * (X 2 + X 3) + 65536 * (X 4 + X 5) + 16777216 * (X 6 + X 7) + 4294967296 * (X 8 + X 9) + 1099511627776 * (X 10 + X 11) := by
    rw [zk_x12, zk_x11]
    show 1 * X 0 + 16 * 0 + 256 * X 2 + 4096 * 0 + 65536 * X 4 + 1048576 * 0 + 16777216 * X 6 + 268435456 * 0 + 4294967296 * X 8 + 68719476736 * 0 + 1099511627776 * X 10 + 17592186044416 * 0 + (1 * X 1 + 16 * 0 + 256 * X 3 + 4096 * 0 + 65536 * X 5 + 1048576 * 0 + 16777216 * X 7 + 268435456 * 0 + 4294967296 * X 9 + 68719476736 * 0 + 1099511627776 * X 11) = _
    omega
  have eT := zk_tot (X 0 + X 1) (X 2 + X 3) (X 4 + X 5) (X 6 + X 7) (X 8 + X 9) (X 10 + X 11) (by omega) (by omega) (by omega) (by omega) (by omega) (by omega)
  have eS : X 0 + X 1 + (X 2 + X 3) + (X 4 + X 5) + (X 6 + X 7) + (X 8 + X 9) + (X 10 + X 11) = fb_sm X 12 := by rw [zk_sum12]; omega
  rw [zk_ev (by decide) hX, zk_sh4 hX, zk_ev (by decide) (fun p hp => hX (p + 1) (by omega)), lN_add, eA, show (72340172838076673 : Int64) = lN 72340172838076673 from rfl, lN_mul, zk_sh56, eT, lN_i, eS]
  exact zq_m _ _
