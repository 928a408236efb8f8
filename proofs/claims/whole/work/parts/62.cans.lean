/-! ===== a pupil by a row; chances ===== -/
theorem zx_pack : ∀ e, e < 29 → ∀ k, k < 8 → nI e <<< (3 &&& 31) ||| nI k = nI (8 * e + k) := by decide +kernel
theorem zx_pack0 : ∀ e, e < 29 → nI e <<< (3 &&& 31) = nI (8 * e + 0) := by decide +kernel
theorem zx_unpack : ∀ e, e < 29 → ∀ k, k < 8 → nI (8 * e + k) >>> (3 &&& 31) = nI e ∧ nI (8 * e + k) &&& 7 = nI k := by decide +kernel
theorem zs_sp_step {a : zs_A} {l : List Nat} (p : Nat) : ∀ k, (zs_sp a l p k).2.1 ≤ k
  | 0 => Nat.le_refl _
  | k + 1 => by
    have := zs_sp_step (a := a) (l := l) p k
    rw [zs_sp]
    simp only
    split <;> omega
theorem l_standing {d : Nat} {a : zs_A} {w : zm_S} (h : zc_A a w) {p : Nat} (hp : p < 12) {o n : Nat} (ho : zc_H[o]? = some (.inl (.int, n, []))) (h7 : 7 ≤ n) (hn31 : n < 2 ^ 31) {l : List Nat} (hl : ∀ j, j < a.1 0 0 → l.getD j 0 < a.1 0 0) (hw : ∀ j, j < a.1 0 0 → w.1 o j = nI (l.getD j 0)) : ∀ (m k : Nat), k + m = a.1 0 0 → zm_T zc_H (d + 2) mX0_standing (zq (.int (nI (8 * (zs_sp a l p (a.1 0 0)).2.2 + (zs_sp a l p (a.1 0 0)).2.1))) w) 15 [(0, .ref 2), (1, .int (nI p)), (2, .ref o), (3, .int (nI (zs_sp a l p k).1)), (4, .int (nI (8 * (zs_sp a l p k).2.2 + (zs_sp a l p k).2.1))), (5, .int (nI k))] [] w := by
  intro m
  have hn := h.1.1
  have hp2 := zn_pow h.1
  induction m with
  | zero =>
    intro k hk
    obtain rfl : k = a.1 0 0 := by omega
    exact gX0_standing_15 ho (fun _ => gX0_standing_66 (zq_m _ _)) (fun q => absurd (by rw [h.2.1]; exact Int32.le_refl _) q)
  | succ m ih =>
    intro k hk
    have next := ih (k + 1) (by omega)
    have hlt := zs_sp_lt (a := a) (l := l) hl p (k + 1) (by omega)
    have hle := zs_sp_le (a := a) (l := l) p k
    have hst := zs_sp_step (a := a) (l := l) p k
    have hr := hl k (by omega)
    rw [zs_sp] at next hlt
    simp only at next hlt
    have he := zs_err_le a p ((zs_sp a l p k).1 ||| 2 ^ l.getD k 0)
    have e : nI (zs_sp a l p k).1 ||| 1 <<< (w.1 o (nI k).toNatClampNeg &&& 31) = nI ((zs_sp a l p k).1 ||| 2 ^ l.getD k 0) := by
      rw [zx_clamp (by omega), hw k (by omega), zy_bit _ (by omega), fa_or]
    refine gX0_standing_15 ho (fun q => absurd q (by rw [h.2.1]; exact nI_ge (by omega) (by omega))) (fun _ => ?_)
    refine gX0_standing_24 ho (fun q => absurd q (nI_ge (by omega) (by omega))) (fun _ => ?_)
    refine gX0_standing_31 ho (vp_in_nI (by omega) (by omega)) (by rw [e]; exact k_errorsWith h hp (by omega)) (zq_i ?_)
    refine gX0_standing_48 ho ?_
    rw [e, nI_1, zx_pack _ (by omega) _ (by omega)]
    generalize zs_err a p ((zs_sp a l p k).1 ||| 2 ^ l.getD k 0) = E at next he ⊢
    by_cases c : E < (zs_sp a l p k).2.2
    · rw [if_pos c, if_pos c] at next
      rw [if_pos (by rw [nI_ltI (by omega) (by omega)]; omega)]
      exact next
    · rw [if_neg c, if_neg c] at next
      rw [if_neg (by rw [nI_ltI (by omega) (by omega)]; omega)]
      exact next
theorem k_standing {d : Nat} {a : zs_A} {w : zm_S} (h : zc_A a w) {p : Nat} (hp : p < 12) {o n : Nat} (ho : zc_H[o]? = some (.inl (.int, n, []))) (h7 : 7 ≤ n) (hn31 : n < 2 ^ 31) {l : List Nat} (hl : ∀ j, j < a.1 0 0 → l.getD j 0 < a.1 0 0) (hw : ∀ j, j < a.1 0 0 → w.1 o j = nI (l.getD j 0)) : zm_C zc_H (d + 2) mX0_standing [.ref 2, .int (nI p), .ref o] w (zq (.int (nI (8 * (zs_sp a l p (a.1 0 0)).2.2 + (zs_sp a l p (a.1 0 0)).2.1))) w) := by
  refine zm_C.of mtX0_standing.1.2.2.2.2.2.2 rfl (Nat.le_of_ble_eq_true rfl) ?_
  refine gX0_standing_0 ho (k_errorsWith h hp (s := 0) (by decide)) (zq_i (gX0_standing_8 ho ?_))
  have he := zs_err_le a p 0
  rw [zx_pack0 _ (by omega)]
  exact l_standing (d := d) h hp ho h7 hn31 hl hw (a.1 0 0) 0 (by omega)
theorem k_offIn {d : Nat} {a : zs_A} {w : zm_S} (h : zc_A a w) {p : Nat} (hp : p < 12) {o n : Nat} (ho : zc_H[o]? = some (.inl (.int, n, []))) (h7 : 7 ≤ n) (hn31 : n < 2 ^ 31) {l : List Nat} (hl : ∀ j, j < a.1 0 0 → l.getD j 0 < a.1 0 0) (hw : ∀ j, j < a.1 0 0 → w.1 o j = nI (l.getD j 0)) : zm_C zc_H (d + 3) mX0_offIn [.ref 2, .int (nI p), .ref o] w (zq (.int (nI (zs_sp a l p (a.1 0 0)).2.2)) w) := by
  refine zm_C.of mtX0_offIn.1.2.2.2.2.2.2 rfl (Nat.le_of_ble_eq_true rfl) ?_
  have hn := h.1.1
  have hle := zs_sp_le (a := a) (l := l) p (a.1 0 0)
  have hst := zs_sp_step (a := a) (l := l) p (a.1 0 0)
  refine gX0_offIn_0 ho (k_standing h hp ho h7 hn31 hl hw) (zq_i (gX0_offIn_6 ?_))
  rw [(zx_unpack _ (by omega) _ (by omega)).1]
  exact zq_m _ _
theorem k_stepIn {d : Nat} {a : zs_A} {w : zm_S} (h : zc_A a w) {p : Nat} (hp : p < 12) {o n : Nat} (ho : zc_H[o]? = some (.inl (.int, n, []))) (h7 : 7 ≤ n) (hn31 : n < 2 ^ 31) {l : List Nat} (hl : ∀ j, j < a.1 0 0 → l.getD j 0 < a.1 0 0) (hw : ∀ j, j < a.1 0 0 → w.1 o j = nI (l.getD j 0)) : zm_C zc_H (d + 3) mX0_stepIn [.ref 2, .int (nI p), .ref o] w (zq (.int (nI (zs_sp a l p (a.1 0 0)).2.1)) w) := by
  refine zm_C.of mtX0_stepIn.1.2.2.2.2.2.2 rfl (Nat.le_of_ble_eq_true rfl) ?_
  have hn := h.1.1
  have hle := zs_sp_le (a := a) (l := l) p (a.1 0 0)
  have hst := zs_sp_step (a := a) (l := l) p (a.1 0 0)
  refine gX0_stepIn_0 ho (k_standing h hp ho h7 hn31 hl hw) (zq_i (gX0_stepIn_6 ?_))
  rw [(zx_unpack _ (by omega) _ (by omega)).2]
  exact zq_m _ _
theorem zs_sp_om (a : zs_A) (l : List Nat) (p : Nat) : ∀ k, (zs_sp a l p k).1 = (zs_om (zs_wg a none none) l p k).1 ∧ (zs_sp a l p k).2.2 = (zs_om (zs_wg a none none) l p k).2
  | 0 => ⟨rfl, rfl⟩
  | k + 1 => by
    obtain ⟨h1, h2⟩ := zs_sp_om a l p k
    rw [zs_sp, zs_om]
    simp only
    rw [h1, h2]
    refine ⟨rfl, ?_⟩
    rw [show zs_wg a none none p ((zs_om (zs_wg a none none) l p k).1 ||| 2 ^ l.getD k 0) = zs_err a p ((zs_om (zs_wg a none none) l p k).1 ||| 2 ^ l.getD k 0) from rfl]
    split <;> omega
theorem l_powerC {d : Nat} {w : zm_S} {b n : Nat} (hn : n < 2 ^ 31) : ∀ (m k : Nat), k + m = n → zm_T zc_H d mX0_power (zq (.long (lN (b ^ n))) w) 5 [(0, .long (lN b)), (2, .int (nI n)), (3, .long (lN (b ^ k))), (5, .int (nI k))] [] w := by
  intro m
  induction m with
  | zero =>
    intro k hk
    obtain rfl : k = n := by omega
    exact gX0_power_5 (fun _ => gX0_power_21 (zq_m _ _)) (fun q => absurd (Int32.le_refl _) q)
  | succ m ih =>
    intro k hk
    refine gX0_power_5 (fun q => absurd q (nI_ge (by omega) (by omega))) (fun _ => gX0_power_11 ?_)
    rw [lN_mul, nI_1, ← Nat.pow_succ]
    exact ih (k + 1) (by omega)
theorem k_powerC {d : Nat} {w : zm_S} {b n : Nat} (hn : n < 2 ^ 31) : zm_C zc_H d mX0_power [.long (lN b), .int (nI n)] w (zq (.long (lN (b ^ n))) w) := by
  refine zm_C.of mtX0_power.1.2.2.2.2.2.2 rfl (Nat.le_of_ble_eq_true rfl) ?_
  exact gX0_power_0 (l_powerC hn n 0 (by omega))
def zs_k (a : zs_A) (p x : Nat) (b : Nat → Bool) : Nat → Nat := fb_ct (fun q => decide (zs_S a p q = x) && b q)
theorem zs_k_1 (a : zs_A) (p x : Nat) (b : Nat → Bool) (m : Nat) : zs_k a p x b (m + 1) = zs_k a p x b m + (if (decide (zs_S a p m = x) && b m) = true then 1 else 0) := fb_ct_succ _ _
theorem zs_ca_pow {a : zs_A} (h : zs_ok a) (p s : Nat) {sl lu : Nat} (hsl : sl ≤ 16) : ∀ m, zs_ca a p s sl lu m = (16 - sl) ^ zs_k a p 1 (fun q => s.testBit q) m * sl ^ zs_k a p 0 (fun q => s.testBit q) m * lu ^ zs_k a p 1 (fun q => ! s.testBit q) m * (16 - lu) ^ zs_k a p 0 (fun q => ! s.testBit q) m
  | 0 => by simp [zs_ca, zs_k, fb_ct]
  | m + 1 => by
    have hS := zs_S_lt h p m
    rw [zs_ca, zs_ca_pow h p s hsl m, zs_k_1, zs_k_1, zs_k_1, zs_k_1, zs_cf]
    rcases (show zs_S a p m = 0 ∨ zs_S a p m = 1 ∨ zs_S a p m = 2 by omega) with e | e | e
    · cases hb : s.testBit m
      · simp [e, Nat.pow_succ, Nat.mul_assoc]
      · have e16 : 16 - (16 - sl) = sl := by omega
        simp [e, e16, Nat.pow_succ, Nat.mul_assoc, Nat.mul_comm, Nat.mul_left_comm]
    · cases hb : s.testBit m
      · simp [e, Nat.pow_succ, Nat.mul_assoc, Nat.mul_comm, Nat.mul_left_comm]
      · simp [e, Nat.pow_succ, Nat.mul_assoc, Nat.mul_comm, Nat.mul_left_comm]
    · simp [e]
theorem zs_k_and (a : zs_A) (h : zs_ok a) (p x s : Nat) : zpc (zb (fun q => decide (zs_S a p q = x)) (a.1 0 0) &&& s) = zs_k a p x (fun q => s.testBit q) (a.1 0 0) := by
  rw [zb_andN, zpc_zb _ (by have := h.1; omega)]; rfl
theorem zs_k_not (a : zs_A) (h : zs_ok a) (p x s : Nat) : zpc (zb (fun q => decide (zs_S a p q = x)) (a.1 0 0) &&& (127 ^^^ s)) = zs_k a p x (fun q => ! s.testBit q) (a.1 0 0) := by
  have hn := h.1
  rw [zs_k_and a h]
  refine fb_ct_cong (fun q hq => ?_)
  show (decide (zs_S a p q = x) && (127 ^^^ s).testBit q) = (decide (zs_S a p q = x) && ! s.testBit q)
  rw [Nat.testBit_xor, show (127 : Nat).testBit q = true by rw [show 127 = 2 ^ 7 - 1 from rfl, Nat.testBit_two_pow_sub_one]; exact decide_eq_true (by omega)]
  simp
theorem k_chanceAboveC {d : Nat} {a : zs_A} {w : zm_S} (h : zc_A a w) {p s sl lu : Nat} (hp : p < 12) (hs : s < 128) (hsl : sl ≤ 16) (hlu : lu ≤ 16) : zm_C zc_H (d + 1) mX0_chanceAbove [.ref 2, .int (nI p), .int (nI s), .int (nI sl), .int (nI lu)] w (zq (.long (lN (zs_ca a p s sl lu (a.1 0 0)))) w) := by
  refine zm_C.of mtX0_chanceAbove.1.2.2.2.2.2.2 rfl (Nat.le_of_ble_eq_true rfl) ?_
  have hY := zs_Y_lt a h.1 p
  have hN := zs_N_lt a h.1 p
  have a1 := zy_and_lt (y := s) hY
  have a2 := zy_and_lt (y := s) hN
  have a3 := zy_and_lt (y := 127 ^^^ s) hY
  have a4 := zy_and_lt (y := 127 ^^^ s) hN
  have b1 := zpc_le (zs_Y a p &&& s)
  have b2 := zpc_le (zs_N a p &&& s)
  have b3 := zpc_le (zs_Y a p &&& (127 ^^^ s))
  have b4 := zpc_le (zs_N a p &&& (127 ^^^ s))
  refine gX0_chanceAbove_0 (k_yesOf h hp) (zq_i ?_)
  refine gX0_chanceAbove_5 (k_noOf h hp) (zq_i ?_)
  refine gX0_chanceAbove_12 (by rw [fa_and]; exact k_bitCount (by omega)) (zq_i ?_)
  rw [zx_16 hsl, nI_l (by omega)]
  refine gX0_chanceAbove_26 (k_powerC (by omega)) (zq_l ?_)
  refine gX0_chanceAbove_29 (by rw [fa_and]; exact k_bitCount (by omega)) (zq_i ?_)
  rw [nI_l (by omega)]
  refine gX0_chanceAbove_38 (k_powerC (by omega)) (zq_l ?_)
  refine gX0_chanceAbove_41 (by rw [zy_not hY hs]; exact k_bitCount (by omega)) (zq_i ?_)
  rw [nI_l (by omega), lN_mul]
  refine gX0_chanceAbove_54 (k_powerC (by omega)) (zq_l ?_)
  refine gX0_chanceAbove_57 (by rw [zy_not hN hs]; exact k_bitCount (by omega)) (zq_i ?_)
  rw [zx_16 hlu, nI_l (by omega), lN_mul]
  refine gX0_chanceAbove_73 (k_powerC (by omega)) (zq_l (gX0_chanceAbove_76 ?_))
  rw [lN_mul, zs_ca_pow h.1 p s hsl]
  unfold zs_Y zs_N
  rw [zs_k_and a h.1, zs_k_and a h.1, zs_k_not a h.1, zs_k_not a h.1]
  exact zq_m _ _
theorem zs_cb_pow {a : zs_A} (h : zs_ok a) (p : Nat) : ∀ m, zs_cb a p m = 16 ^ fb_ct (fun q => decide (zs_S a p q = 1) || decide (zs_S a p q = 0)) m
  | 0 => rfl
  | m + 1 => by
    have hS := zs_S_lt h p m
    rw [zs_cb, fb_ct_succ, zs_cb_pow h p m]
    rcases (show zs_S a p m = 0 ∨ zs_S a p m = 1 ∨ zs_S a p m = 2 by omega) with e | e | e <;> simp [e, Nat.pow_succ]
theorem k_chanceBelow {d : Nat} {a : zs_A} {w : zm_S} (h : zc_A a w) {p : Nat} (hp : p < 12) : zm_C zc_H (d + 2) mX0_chanceBelow [.ref 2, .int (nI p)] w (zq (.long (lN (zs_cb a p (a.1 0 0)))) w) := by
  refine zm_C.of mtX0_chanceBelow.1.2.2.2.2.2.2 rfl (Nat.le_of_ble_eq_true rfl) ?_
  have hn := h.1.1
  have b := zpc_le (zs_Y a p ||| zs_N a p)
  refine gX0_chanceBelow_0 (k_given h hp) (zq_i ?_)
  refine gX0_chanceBelow_8 (k_powerC (b := 16) (by omega)) (zq_l (gX0_chanceBelow_11 ?_))
  rw [zs_cb_pow h.1, ← zpc_zb _ (by omega)]
  rw [show zb (fun q => decide (zs_S a p q = 1) || decide (zs_S a p q = 0)) (a.1 0 0) = zs_Y a p ||| zs_N a p from by
    apply Nat.eq_of_testBit_eq
    intro i
    rw [Nat.testBit_or, zs_Y, zs_N, zb_bit, zb_bit, zb_bit]
    by_cases c : i < a.1 0 0 <;> simp [c]]
  exact zq_m _ _
