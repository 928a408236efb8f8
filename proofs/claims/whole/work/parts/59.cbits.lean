/-! ===== the JDK's: how many bits ===== -/
def zj1 (a : Int32) : Int32 := a - ((a.toUInt32 >>> ((1 : Int32).toUInt32 &&& Int32.toUInt32 31)).toInt32 &&& 1431655765)
def zj2 (a : Int32) : Int32 := (a &&& 858993459) + ((a.toUInt32 >>> ((2 : Int32).toUInt32 &&& Int32.toUInt32 31)).toInt32 &&& 858993459)
def zj4 (a : Int32) : Int32 := (a + (a.toUInt32 >>> ((4 : Int32).toUInt32 &&& Int32.toUInt32 31)).toInt32) &&& 252645135
def zj8 (a : Int32) : Int32 := a + (a.toUInt32 >>> ((8 : Int32).toUInt32 &&& Int32.toUInt32 31)).toInt32
def zj16 (a : Int32) : Int32 := a + (a.toUInt32 >>> ((16 : Int32).toUInt32 &&& Int32.toUInt32 31)).toInt32
def zjc (a : Int32) : Int32 := zj16 (zj8 (zj4 (zj2 (zj1 a)))) &&& 63
def zjk (o : Nat) : Bool := (List.range 2048).all (fun x => decide (zjc (nI (o + x)) = nI (zpc (o + x))))
theorem zjk_0 : zjk 0 = true := by decide +kernel
theorem zjk_1 : zjk 2048 = true := by decide +kernel
theorem zjk_2 : zjk 4096 = true := by decide +kernel
theorem zjk_3 : zjk 6144 = true := by decide +kernel
theorem zjk_4 : zjk 8192 = true := by decide +kernel
theorem zjk_5 : zjk 10240 = true := by decide +kernel
theorem zjk_6 : zjk 12288 = true := by decide +kernel
theorem zjk_7 : zjk 14336 = true := by decide +kernel
theorem zjk_of {o x : Nat} (h : zjk o = true) (h1 : o ≤ x) (h2 : x < o + 2048) : zjc (nI x) = nI (zpc x) := by
  have := (List.all_eq_true.mp h) (x - o) (List.mem_range.mpr (by omega))
  rw [show o + (x - o) = x by omega] at this
  exact of_decide_eq_true this
theorem zjc_n {x : Nat} (h : x < 16384) : zjc (nI x) = nI (zpc x) := by
  rcases (show x < 2048 ∨ (2048 ≤ x ∧ x < 4096) ∨ (4096 ≤ x ∧ x < 6144) ∨ (6144 ≤ x ∧ x < 8192) ∨ (8192 ≤ x ∧ x < 10240) ∨ (10240 ≤ x ∧ x < 12288) ∨ (12288 ≤ x ∧ x < 14336) ∨ (14336 ≤ x ∧ x < 16384) by omega) with q | q | q | q | q | q | q | q
  · exact zjk_of zjk_0 (by omega) (by omega)
  · exact zjk_of zjk_1 (by omega) (by omega)
  · exact zjk_of zjk_2 (by omega) (by omega)
  · exact zjk_of zjk_3 (by omega) (by omega)
  · exact zjk_of zjk_4 (by omega) (by omega)
  · exact zjk_of zjk_5 (by omega) (by omega)
  · exact zjk_of zjk_6 (by omega) (by omega)
  · exact zjk_of zjk_7 (by omega) (by omega)
theorem k_bitCount {SH : List zm_H} {d : Nat} {w : zm_S} {x : Nat} (h : x < 16384) : zm_C SH d mJ6_bitCount_0f7a4 [.int (nI x)] w (zq (.int (nI (zpc x))) w) := by
  refine zm_C.of mtJ6_bitCount_0f7a4.1.2.2.2.2.2.2 rfl (Nat.le_of_ble_eq_true rfl) ?_
  refine gJ6_bitCount_0f7a4_0 ?_
  rw [← zjc_n h]
  exact zq_m _ _
