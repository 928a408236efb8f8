theorem zx_in0 : vp_in 0 4 := vp_in_nI (n := 0) (by decide) (by decide)
theorem zx_in3 : vp_in 3 4 := vp_in_nI (n := 3) (by decide) (by decide)
theorem zx_in2 : vp_in 2 4 := vp_in_nI (n := 2) (by decide) (by decide)
theorem k_n {d : Nat} {a : zs_A} {v : zm_S} (h : zd_P a v) : zm_C zd_H d mX8_n [.ref 0] v (zq (.int (nI (a.1 0 0))) v) := by
  refine zm_C.of mtX8_n.1.2.2.2.2.2.2 rfl (Nat.le_of_ble_eq_true rfl) ?_
  refine gX8_n_0 zx_in0 ?_
  rw [show (0 : Int32).toNatClampNeg = 0 from rfl, h.2.1 0 (by decide)]
  exact zq_m _ _
theorem zy_whole : ∀ n, n < 8 → ((1 : Int32) <<< (nI n &&& 31)) - 1 = nI (2 ^ n - 1) := by decide
theorem k_whole {d : Nat} {a : zs_A} {v : zm_S} (h : zd_P a v) : zm_C zd_H (d + 1) mX8_whole [.ref 0] v (zq (.int (nI (2 ^ a.1 0 0 - 1))) v) := by
  refine zm_C.of mtX8_whole.1.2.2.2.2.2.2 rfl (Nat.le_of_ble_eq_true rfl) ?_
  refine gX8_whole_0 (k_n h) (zq_i ?_)
  refine gX8_whole_5 ?_
  have := h.1.1
  rw [zy_whole _ (by omega)]
  exact zq_m _ _
theorem k_isIn {d : Nat} {w : zm_S} {x k : Nat} (hx : x < 2 ^ 31) (hk : k < 31) : zm_C zd_H d mX8_isIn [.int (nI x), .int (nI k)] w (zq (.int (zi (x.testBit k = true))) w) := by
  refine zm_C.of mtX8_isIn.1.2.2.2.2.2.2 rfl (Nat.le_of_ble_eq_true rfl) ?_
  refine gX8_isIn_0 (fun h => ?_) (fun h => ?_)
  · rw [zy_in hx hk] at h
    refine gX8_isIn_13 ?_
    rw [zi_f h]
    exact zq_m _ _
  · rw [zy_in hx hk] at h
    refine gX8_isIn_9 ?_
    rw [zi_t h]
    exact zq_m _ _
theorem l_ones {d : Nat} {w : zm_S} {Q : Value → zm_S → Prop} : ∀ (m x c : Nat), x < 128 → x < m → (Q (.int (nI (c + zpc x))) w) → zm_T zd_H d mX8_ones Q 4 [(1, .int (nI c)), (2, .int (nI x))] [] w := by
  intro m
  induction m with
  | zero => intro x c _ h; omega
  | succ m ih =>
    intro x c hx hm hQ
    have e0 : nI x = 0 ↔ x = 0 := nI_eq (b := 0) (by omega) (by decide)
    refine gX8_ones_4 (fun h => gX8_ones_20 ?_) (fun h => gX8_ones_8 ?_)
    · rw [e0] at h
      subst h
      exact hQ
    · rw [e0] at h
      obtain ⟨k1, k2⟩ := zpc_k x hx h
      rw [nI_1, show nI x - 1 = nI (x - 1) from pk_sub (b := 1) (by omega), fa_and]
      refine ih _ _ (by omega) (by omega) ?_
      rw [show c + 1 + zpc (x &&& (x - 1)) = c + zpc x by omega]
      exact hQ
theorem k_ones {d : Nat} {w : zm_S} {x : Nat} (hx : x < 128) : zm_C zd_H d mX8_ones [.int (nI x)] w (zq (.int (nI (zpc x))) w) := by
  refine zm_C.of mtX8_ones.1.2.2.2.2.2.2 rfl (Nat.le_of_ble_eq_true rfl) ?_
  refine gX8_ones_0 ?_
  exact l_ones 128 x 0 hx hx (by rw [Nat.zero_add]; exact zq_m _ _)
theorem k_isQuestion {d : Nat} {a : zs_A} {v : zm_S} (h : zd_P a v) (q : Int32) : zm_C zd_H (d + 1) mX8_isQuestion [.ref 0, .int q] v (zq (.int (zi (0 ≤ q ∧ q < nI (a.1 0 0)))) v) := by
  refine zm_C.of mtX8_isQuestion.1.2.2.2.2.2.2 rfl (Nat.le_of_ble_eq_true rfl) ?_
  have := h.1.1
  refine gX8_isQuestion_0 (k_n h) (zq_i ?_)
  refine gX8_isQuestion_7 (k_inI q 0 (nI (a.1 0 0) - 1) rfl rfl) (zq_i ?_)
  refine gX8_isQuestion_13 zi_and ?_
  rw [zi_cong (zx_ltn (by omega))]
  exact zq_m _ _
/-- bits(pupil, x): the questions below n that were answered so -/
theorem l_bits {d : Nat} {a : zs_A} {v : zm_S} (h : zd_P a v) (hS : zd_S a v) {p x : Nat} (hp : p < 12) (hx : x < 3) :
    ∀ (m k : Nat), k + m = a.1 0 0 → zm_T zd_H (d + 1) mX8_bits (zq (.int (nI (zb (fun q => decide (zs_S a p q = x)) (a.1 0 0)))) v) 5 [(0, .ref 0), (1, .int (nI p)), (2, .int (nI x)), (3, .int (nI (zb (fun q => decide (zs_S a p q = x)) k))), (4, .int (nI k))] [] v := by
  intro m
  have hn := h.1.1
  induction m with
  | zero =>
    intro k hk
    obtain rfl : k = a.1 0 0 := by omega
    refine gX8_bits_5 (k_n h) (zq_i ?_)
    exact gX8_bits_11 (fun _ => gX8_bits_47 (zq_m _ _)) (fun q => absurd (Int32.le_refl _) q)
  | succ m ih =>
    intro k hk
    refine gX8_bits_5 (k_n h) (zq_i ?_)
    refine gX8_bits_11 (fun q => absurd q (nI_ge (by omega) (by omega))) (fun _ => ?_)
    have hb := zb_lt7 (fun q => decide (zs_S a p q = x)) (m := k) (by omega)
    have hs := zs_S_lt h.1 p k
    have e : v.1 10 ((7 : Int32) * nI p + nI k).toNatClampNeg = nI (zs_S a p k) := by rw [zx_7, zx_clamp (by omega)]; exact hS p k hp (by omega)
    refine gX8_bits_14 (by rw [zx_7]; exact vp_in_nI (by omega) (by decide)) (fun q => ?_) (fun q => ?_)
    · rw [e, nI_eq (by omega) (by omega)] at q
      refine gX8_bits_38 (gX8_bits_39 ?_)
      have := ih (k + 1) (by omega)
      rw [zb, if_neg (by simpa using q), Nat.or_zero] at this
      rw [show nI (zb (fun q => decide (zs_S a p q = x)) k) ||| 0 = nI (zb (fun q => decide (zs_S a p q = x)) k) by rw [show (0 : Int32) = nI 0 from rfl, fa_or, Nat.or_zero], nI_1]
      exact this
    · rw [e, nI_eq (by omega) (by omega)] at q
      refine gX8_bits_31 (gX8_bits_39 ?_)
      have := ih (k + 1) (by omega)
      rw [zb, if_pos (by simpa using q)] at this
      rw [zy_bit k (by omega), fa_or, nI_1]
      exact this
theorem k_bits {d : Nat} {a : zs_A} {v : zm_S} (h : zd_P a v) (hS : zd_S a v) {p x : Nat} (hp : p < 12) (hx : x < 3) : zm_C zd_H (d + 1) mX8_bits [.ref 0, .int (nI p), .int (nI x)] v (zq (.int (nI (zb (fun q => decide (zs_S a p q = x)) (a.1 0 0)))) v) := by
  refine zm_C.of mtX8_bits.1.2.2.2.2.2.2 rfl (Nat.le_of_ble_eq_true rfl) ?_
  exact gX8_bits_0 (l_bits h hS hp hx (a.1 0 0) 0 (by omega))
def zs_Y (a : zs_A) (p : Nat) : Nat := zb (fun q => decide (zs_S a p q = 1)) (a.1 0 0)
def zs_N (a : zs_A) (p : Nat) : Nat := zb (fun q => decide (zs_S a p q = 0)) (a.1 0 0)
def zs_err (a : zs_A) (p s : Nat) : Nat := zpc (zs_Y a p &&& (127 ^^^ s)) + zpc (zs_N a p &&& s)
