/-! ===== the class's answers: what is so in its places ===== -/
def zs_sb (f : Nat → Nat → Nat) (x p : Nat) : Nat := zb (fun q => decide (f p q = x)) 7
def zs_sw2 (f : Nat → Nat → Nat) (x q : Nat) : Nat := zb (fun p => decide (f p q = x)) 12
def zc_F (f : Nat → Nat → Nat) (w : zm_S) : Prop := (∀ p, p < 12 → w.1 7 p = nI (zs_sb f 1 p) ∧ w.1 8 p = nI (zs_sb f 0 p)) ∧ ∀ q, q < 7 → w.1 9 q = nI (zs_sw2 f 1 q) ∧ w.1 10 q = nI (zs_sw2 f 0 q)
def zc_A (a : zs_A) (w : zm_S) : Prop := zs_ok a ∧ w.1 2 9 = nI (a.1 0 0) ∧ w.1 2 10 = nI (2 ^ a.1 0 0 - 1) ∧ zc_F (zs_S a) w
theorem zs_sb_lt (f : Nat → Nat → Nat) (x p : Nat) : zs_sb f x p < 128 := zb_lt _ 7
theorem zs_sw2_lt (f : Nat → Nat → Nat) (x q : Nat) : zs_sw2 f x q < 4096 := zb_lt _ 12
theorem zb_cut (f : Nat → Bool) {n m : Nat} (h : n ≤ m) : zb f m &&& (2 ^ n - 1) = zb f n := by
  apply Nat.eq_of_testBit_eq
  intro i
  rw [Nat.testBit_and, zb_bit, zb_bit, Nat.testBit_two_pow_sub_one]
  by_cases c : i < n
  · have : i < m := by omega
    simp [c, this]
  · simp [c]
theorem zb_and (f g : Nat → Bool) (m : Nat) : zb f m &&& zb g m = zb (fun i => f i && g i) m := by
  apply Nat.eq_of_testBit_eq
  intro i
  rw [Nat.testBit_and, zb_bit, zb_bit, zb_bit]
  by_cases c : i < m <;> simp [c]
theorem zb_andN (f : Nat → Bool) (m s : Nat) : zb f m &&& s = zb (fun i => f i && s.testBit i) m := by
  apply Nat.eq_of_testBit_eq
  intro i
  rw [Nat.testBit_and, zb_bit, zb_bit, Bool.and_assoc]
theorem fb_ct_cut (f : Nat → Bool) (m : Nat) : ∀ r, fb_ct (fun i => decide (i < m) && f i) (m + r) = fb_ct f m
  | 0 => fb_ct_cong (fun k hk => by have : k < m := hk; simp [this])
  | r + 1 => by
    rw [← Nat.add_assoc, fb_ct_succ, fb_ct_cut f m r]
    have : ¬ m + r < m := by omega
    simp [this]
theorem zpc_zb (f : Nat → Bool) {m : Nat} (h : m ≤ 14) : zpc (zb f m) = fb_ct f m := by
  unfold zpc
  rw [fb_ct_cong (q := fun i => decide (i < m) && f i) (fun k _ => zb_bit f k m), show 14 = m + (14 - m) by omega, fb_ct_cut]
theorem zct_or {f g : Nat → Bool} : ∀ {n : Nat}, (∀ k, k < n → (f k && g k) = false) → fb_ct (fun i => f i || g i) n = fb_ct f n + fb_ct g n
  | 0, _ => rfl
  | n + 1, h => by
    rw [fb_ct_succ, fb_ct_succ, fb_ct_succ, zct_or (fun k hk => h k (by omega))]
    have := h n (by omega)
    cases hf : f n <;> cases hg : g n <;> rw [hf, hg] at this <;> simp at this ⊢ <;> omega
theorem zpc_or {x y : Nat} (h : x &&& y = 0) : zpc (x ||| y) = zpc x + zpc y := by
  unfold zpc
  rw [fb_ct_cong (q := fun i => x.testBit i || y.testBit i) (fun k _ => Nat.testBit_or x y k)]
  exact zct_or (fun k _ => by rw [← Nat.testBit_and, h, Nat.zero_testBit])
theorem zpc_0 : ∀ x, x < 128 → (zpc x = 0 ↔ x = 0) := by decide +kernel
theorem zb_off {f g : Nat → Bool} {m : Nat} (h : ∀ i, (f i && g i) = false) : zb f m &&& zb g m = 0 := by
  apply Nat.eq_of_testBit_eq
  intro i
  rw [zb_and, zb_bit, Nat.zero_testBit, h, Bool.and_false]
theorem zs_NY (a : zs_A) (p : Nat) : zs_N a p &&& zs_Y a p = 0 := zb_off (fun q => by
  by_cases c : zs_S a p q = 0
  · simp [c]
  · simp [c])
theorem zs_all_g (a : zs_A) (p : Nat) : zpc (zs_Y a p ||| zs_N a p) = zpc (zs_N a p) + zpc (zs_Y a p) := by rw [Nat.or_comm, zpc_or (zs_NY a p)]
theorem k_yesOf {d : Nat} {a : zs_A} {w : zm_S} (h : zc_A a w) {p : Nat} (hp : p < 12) : zm_C zc_H d mX0_yesOf [.ref 2, .int (nI p)] w (zq (.int (nI (zs_Y a p))) w) := by
  refine zm_C.of mtX0_yesOf.1.2.2.2.2.2.2 rfl (Nat.le_of_ble_eq_true rfl) ?_
  refine gX0_yesOf_0 (vp_in_nI hp (by decide)) ?_
  rw [zx_clamp (by omega), (h.2.2.2.1 p hp).1, h.2.2.1, fa_and, zs_sb, zb_cut _ h.1.1.2.1]
  exact zq_m _ _
theorem k_noOf {d : Nat} {a : zs_A} {w : zm_S} (h : zc_A a w) {p : Nat} (hp : p < 12) : zm_C zc_H d mX0_noOf [.ref 2, .int (nI p)] w (zq (.int (nI (zs_N a p))) w) := by
  refine zm_C.of mtX0_noOf.1.2.2.2.2.2.2 rfl (Nat.le_of_ble_eq_true rfl) ?_
  refine gX0_noOf_0 (vp_in_nI hp (by decide)) ?_
  rw [zx_clamp (by omega), (h.2.2.2.1 p hp).2, h.2.2.1, fa_and, zs_sb, zb_cut _ h.1.1.2.1]
  exact zq_m _ _
theorem k_given {d : Nat} {a : zs_A} {w : zm_S} (h : zc_A a w) {p : Nat} (hp : p < 12) : zm_C zc_H (d + 1) mX0_given [.ref 2, .int (nI p)] w (zq (.int (nI (zpc (zs_Y a p ||| zs_N a p)))) w) := by
  refine zm_C.of mtX0_given.1.2.2.2.2.2.2 rfl (Nat.le_of_ble_eq_true rfl) ?_
  have hY := zs_Y_lt a h.1 p
  have hN := zs_N_lt a h.1 p
  refine gX0_given_0 (k_yesOf h hp) (zq_i ?_)
  refine gX0_given_5 (k_noOf h hp) (zq_i ?_)
  have hC := k_bitCount (SH := zc_H) (d := d) (w := w) (x := zs_Y a p ||| zs_N a p) (by have := zy_or_lt hY hN; omega)
  exact gX0_given_10 (by rw [fa_or]; exact hC) (zq_i (gX0_given_14 (zq_m _ _)))
def zs_gv (a : zs_A) : Nat → Nat := fb_sm (fun p => zpc (zs_Y a p ||| zs_N a p))
theorem zs_gv_all (a : zs_A) : zs_gv a 12 = zs_al a := by
  unfold zs_gv zs_al zs_all
  rw [← fb_sm_add]
  exact fb_sm_cong (fun p _ => zs_all_g a p)
theorem l_givenByAll {d : Nat} {a : zs_A} {w : zm_S} (h : zc_A a w) : ∀ (m k : Nat), k + m = 12 → zm_T zc_H (d + 2) mX0_givenByAll (zq (.int (nI (zs_gv a 12))) w) 4 [(0, .ref 2), (1, .int (nI (zs_gv a k))), (2, .int (nI k))] [] w := by
  intro m
  induction m with
  | zero =>
    intro k hk
    obtain rfl : k = 12 := by omega
    exact gX0_givenByAll_4 (fun _ => gX0_givenByAll_24 (zq_m _ _)) (fun q => absurd (by decide) q)
  | succ m ih =>
    intro k hk
    refine gX0_givenByAll_4 (fun q => absurd q (nI_ge (b := 12) (by omega) (by decide))) (fun _ => ?_)
    refine gX0_givenByAll_10 (k_given h (by omega)) (zq_i (gX0_givenByAll_16 ?_))
    rw [nI_add, nI_1]
    exact ih (k + 1) (by omega)
theorem k_givenByAll {d : Nat} {a : zs_A} {w : zm_S} (h : zc_A a w) : zm_C zc_H (d + 2) mX0_givenByAll [.ref 2] w (zq (.int (nI (zs_al a))) w) := by
  refine zm_C.of mtX0_givenByAll.1.2.2.2.2.2.2 rfl (Nat.le_of_ble_eq_true rfl) ?_
  rw [← zs_gv_all]
  exact gX0_givenByAll_0 (l_givenByAll h 12 0 rfl)
theorem l_yesByAll {d : Nat} {a : zs_A} {w : zm_S} (h : zc_A a w) : ∀ (m k : Nat), k + m = 12 → zm_T zc_H (d + 2) mX0_yesByAll (zq (.int (nI (zs_all a 1 12))) w) 4 [(0, .ref 2), (1, .int (nI (zs_all a 1 k))), (2, .int (nI k))] [] w := by
  intro m
  induction m with
  | zero =>
    intro k hk
    obtain rfl : k = 12 := by omega
    exact gX0_yesByAll_4 (fun _ => gX0_yesByAll_27 (zq_m _ _)) (fun q => absurd (by decide) q)
  | succ m ih =>
    intro k hk
    have hY := zs_Y_lt a h.1 k
    refine gX0_yesByAll_4 (fun q => absurd q (nI_ge (b := 12) (by omega) (by decide))) (fun _ => ?_)
    refine gX0_yesByAll_10 (k_yesOf h (by omega)) (zq_i ?_)
    refine gX0_yesByAll_16 (k_bitCount (by omega)) (zq_i (gX0_yesByAll_19 ?_))
    rw [nI_add, nI_1]
    exact ih (k + 1) (by omega)
theorem k_yesByAll {d : Nat} {a : zs_A} {w : zm_S} (h : zc_A a w) : zm_C zc_H (d + 2) mX0_yesByAll [.ref 2] w (zq (.int (nI (zs_all a 1 12))) w) := by
  refine zm_C.of mtX0_yesByAll.1.2.2.2.2.2.2 rfl (Nat.le_of_ble_eq_true rfl) ?_
  exact gX0_yesByAll_0 (l_yesByAll h 12 0 rfl)
theorem zs_pos {a : zs_A} (h : zs_ok a) (p : Nat) : zpc (zs_Y a p ||| zs_N a p) = 0 ↔ ¬ (zs_N a p ||| zs_Y a p ≠ 0) := by
  rw [Nat.or_comm, zpc_0 _ (zy_or_lt (zs_N_lt a h p) (zs_Y_lt a h p)), Decidable.not_not]
theorem l_pupilsWithSome {d : Nat} {a : zs_A} {w : zm_S} (h : zc_A a w) : ∀ (m k : Nat), k + m = 12 → zm_T zc_H (d + 2) mX0_pupilsWithSome (zq (.int (nI (zs_with a 12))) w) 4 [(0, .ref 2), (1, .int (nI (zs_with a k))), (2, .int (nI k))] [] w := by
  intro m
  induction m with
  | zero =>
    intro k hk
    obtain rfl : k = 12 := by omega
    exact gX0_pupilsWithSome_4 (fun _ => gX0_pupilsWithSome_32 (zq_m _ _)) (fun q => absurd (by decide) q)
  | succ m ih =>
    intro k hk
    have hz := zpc_le (zs_Y a k ||| zs_N a k)
    have next := ih (k + 1) (by omega)
    rw [zs_with_1 a k] at next
    refine gX0_pupilsWithSome_4 (fun q => absurd q (nI_ge (b := 12) (by omega) (by decide))) (fun _ => ?_)
    refine gX0_pupilsWithSome_10 (k_given h (by omega)) (zq_i ?_)
    refine gX0_pupilsWithSome_16 (fun g => gX0_pupilsWithSome_23 (gX0_pupilsWithSome_24 ?_)) (fun g => gX0_pupilsWithSome_19 (gX0_pupilsWithSome_24 ?_))
    · have g2 := (nI_leI (b := 0) (by omega) (by decide)).mp g
      rw [if_neg ((zs_pos h.1 k).mp (by omega))] at next
      rw [show (0 : Int32) = nI 0 from rfl, nI_add, nI_1]
      exact next
    · have g2 : ¬ zpc (zs_Y a k ||| zs_N a k) ≤ 0 := fun q => g ((nI_leI (b := 0) (by omega) (by decide)).mpr q)
      rw [if_pos (by by_cases c : zs_N a k ||| zs_Y a k ≠ 0; exact c; exact absurd ((zs_pos h.1 k).mpr c) (by omega))] at next
      rw [nI_1, nI_1]
      exact next
theorem k_pupilsWithSome {d : Nat} {a : zs_A} {w : zm_S} (h : zc_A a w) : zm_C zc_H (d + 2) mX0_pupilsWithSome [.ref 2] w (zq (.int (nI (zs_with a 12))) w) := by
  refine zm_C.of mtX0_pupilsWithSome.1.2.2.2.2.2.2 rfl (Nat.le_of_ble_eq_true rfl) ?_
  exact gX0_pupilsWithSome_0 (l_pupilsWithSome h 12 0 rfl)
theorem zs_sw2_c (a : zs_A) (x q : Nat) : zpc (zs_sw2 (zs_S a) x q) = zs_c a x q 12 := zpc_zb _ (by decide)
theorem l_largerShares {d : Nat} {a : zs_A} {w : zm_S} (h : zc_A a w) : ∀ (m k : Nat), k + m = a.1 0 0 → zm_T zc_H (d + 1) mX0_largerShares (zq (.int (nI (zs_sh a (a.1 0 0)))) w) 4 [(0, .ref 2), (1, .int (nI (zs_sh a k))), (2, .int (nI k))] [] w := by
  intro m
  have hn := h.1.1
  induction m with
  | zero =>
    intro k hk
    obtain rfl : k = a.1 0 0 := by omega
    exact gX0_largerShares_4 (fun _ => gX0_largerShares_42 (zq_m _ _)) (fun q => absurd (by rw [h.2.1]; exact Int32.le_refl _) q)
  | succ m ih =>
    intro k hk
    have h1 := zs_sw2_lt (zs_S a) 1 k
    have h0 := zs_sw2_lt (zs_S a) 0 k
    have c1 := zs_c_le a 1 k 12
    have c0 := zs_c_le a 0 k 12
    obtain ⟨e1, e0⟩ := h.2.2.2.2 k (by omega)
    refine gX0_largerShares_4 (fun q => absurd q (by rw [h.2.1]; exact nI_ge (by omega) (by omega))) (fun _ => ?_)
    refine gX0_largerShares_12 (vp_in_nI (by omega) (by decide)) (by rw [zx_clamp (by omega), e1]; exact k_bitCount (by omega)) (zq_i ?_)
    refine gX0_largerShares_22 (vp_in_nI (by omega) (by decide)) (by rw [zx_clamp (by omega), e0]; exact k_bitCount (by omega)) (zq_i (gX0_largerShares_31 ?_))
    have next := ih (k + 1) (by omega)
    rw [show zs_sh a (k + 1) = zs_sh a k + max (zs_c a 1 k 12) (zs_c a 0 k 12) from rfl] at next
    rw [zs_sw2_c, zs_sw2_c, nI_1]
    have e : (if nI (zs_c a 1 k 12) < nI (zs_c a 0 k 12) then nI (zs_c a 0 k 12) else nI (zs_c a 1 k 12)) = nI (max (zs_c a 1 k 12) (zs_c a 0 k 12)) := by
      split
      · rename_i g
        rw [nI_ltI (by omega) (by omega)] at g
        rw [Nat.max_eq_right (by omega)]
      · rename_i g
        rw [nI_ltI (by omega) (by omega)] at g
        rw [Nat.max_eq_left (by omega)]
    rw [e, nI_add]
    exact next
theorem k_largerShares {d : Nat} {a : zs_A} {w : zm_S} (h : zc_A a w) : zm_C zc_H (d + 1) mX0_largerShares [.ref 2] w (zq (.int (nI (zs_sh a (a.1 0 0)))) w) := by
  refine zm_C.of mtX0_largerShares.1.2.2.2.2.2.2 rfl (Nat.le_of_ble_eq_true rfl) ?_
  exact gX0_largerShares_0 (l_largerShares h (a.1 0 0) 0 (by omega))
theorem zy_a2 (x q : Nat) : x &&& 2 ^ q = 0 ↔ x.testBit q = false := by
  refine ⟨fun h => ?_, fun h => ?_⟩
  · have := congrArg (fun z => z.testBit q) h
    simp only [Nat.testBit_and, Nat.testBit_two_pow_self, Bool.and_true, Nat.zero_testBit] at this
    exact this
  · apply Nat.eq_of_testBit_eq
    intro i
    rw [Nat.testBit_and, Nat.zero_testBit, Nat.testBit_two_pow]
    by_cases c : q = i
    · rw [← c, h]; rfl
    · simp [c]
theorem zy_tb {x : Nat} (hx : x < 16384) {q : Nat} (hq : q < 14) : (nI x &&& 1 <<< (nI q &&& 31) = 0) ↔ x.testBit q = false := by
  have h3 : x &&& 2 ^ q ≤ x := Nat.and_le_left
  rw [zy_bit q (by omega), fa_and, show (0 : Int32) = nI 0 from rfl, nI_eq (by omega) (by decide), zy_a2]
theorem k_heard {d : Nat} {f : Nat → Nat → Nat} {w : zm_S} (h : zc_F f w) {p q : Nat} (hp : p < 12) (hq : q < 7) (hf : f p q < 3) : zm_C zc_H d mX0_heard [.ref 2, .int (nI p), .int (nI q)] w (zq (.int (nI (f p q))) w) := by
  refine zm_C.of mtX0_heard.1.2.2.2.2.2.2 rfl (Nat.le_of_ble_eq_true rfl) ?_
  obtain ⟨e1, e0⟩ := h.1 p hp
  have b1 := zs_sb_lt f 1 p
  have b0 := zs_sb_lt f 0 p
  have t1 : (zs_sb f 1 p).testBit q = decide (f p q = 1) := by rw [zs_sb, zb_bit]; simp [hq]
  have t0 : (zs_sb f 0 p).testBit q = decide (f p q = 0) := by rw [zs_sb, zb_bit]; simp [hq]
  refine gX0_heard_0 (vp_in_nI hp (by decide)) (fun g => ?_) (fun g => gX0_heard_15 ?_)
  · rw [zx_clamp (by omega), e1, zy_tb (by omega) (by omega), t1, decide_eq_false_iff_not] at g
    refine gX0_heard_17 (vp_in_nI hp (by decide)) (fun g2 => gX0_heard_32 ?_) (fun g2 => gX0_heard_28 ?_)
    · rw [zx_clamp (by omega), e0, zy_tb (by omega) (by omega), t0, decide_eq_false_iff_not] at g2
      rw [show f p q = 2 by omega]
      exact zq_m _ _
    · rw [zx_clamp (by omega), e0, zy_tb (by omega) (by omega), t0, decide_eq_false_iff_not, Decidable.not_not] at g2
      rw [g2]
      exact zq_m _ _
  · rw [zx_clamp (by omega), e1, zy_tb (by omega) (by omega), t1, decide_eq_false_iff_not, Decidable.not_not] at g
    rw [g]
    exact zq_m _ _
theorem k_errorsWith {d : Nat} {a : zs_A} {w : zm_S} (h : zc_A a w) {p s : Nat} (hp : p < 12) (hs : s < 128) : zm_C zc_H (d + 1) mX0_errorsWith [.ref 2, .int (nI p), .int (nI s)] w (zq (.int (nI (zs_err a p s))) w) := by
  refine zm_C.of mtX0_errorsWith.1.2.2.2.2.2.2 rfl (Nat.le_of_ble_eq_true rfl) ?_
  have hY := zs_Y_lt a h.1 p
  have hN := zs_N_lt a h.1 p
  have h1 := zy_and_lt (y := 127 ^^^ s) hY
  have h2 := zy_and_lt (y := s) hN
  refine gX0_errorsWith_0 (k_yesOf h hp) (zq_i ?_)
  refine gX0_errorsWith_5 (by rw [zy_not hY hs]; exact k_bitCount (by omega)) (zq_i ?_)
  refine gX0_errorsWith_12 (k_noOf h hp) (zq_i ?_)
  refine gX0_errorsWith_17 (by rw [fa_and]; exact k_bitCount (by omega)) (zq_i (gX0_errorsWith_22 ?_))
  rw [nI_add]
  exact zq_m _ _
theorem zs_two_b (a : zs_A) (x y b c : Nat) : zpc (zs_sw2 (zs_S a) x b &&& zs_sw2 (zs_S a) y c) = zs_two a x y b c 12 := by
  rw [zs_sw2, zs_sw2, zb_and, zpc_zb _ (by decide), zs_two]
  exact fb_ct_cong (fun k _ => by simp)
theorem l_foundFor {d : Nat} {a : zs_A} {w : zm_S} (h : zc_A a w) {y : Nat} (hy : y < 7) : ∀ (m k : Nat), k + m = a.1 0 0 → zm_T zc_H (d + 1) mX0_foundFor (zq (.int (nI (zb (fun x => zs_need a 1 x y) (a.1 0 0)))) w) 5 [(0, .ref 2), (1, .int (nI y)), (2, .int (nI (a.1 0 2))), (3, .int (nI (zb (fun x => zs_need a 1 x y) k))), (4, .int (nI k))] [] w := by
  intro m
  have hn := h.1.1
  induction m with
  | zero =>
    intro k hk
    obtain rfl : k = a.1 0 0 := by omega
    exact gX0_foundFor_5 (fun _ => gX0_foundFor_84 (zq_m _ _)) (fun q => absurd (by rw [h.2.1]; exact Int32.le_refl _) q)
  | succ m ih =>
    intro k hk
    obtain ⟨e1, e0⟩ := h.2.2.2.2 k (by omega)
    obtain ⟨f1, f0⟩ := h.2.2.2.2 y hy
    have next := ih (k + 1) (by omega)
    have l1 := zs_sw2_lt (zs_S a) 1 y
    have l0 := zs_sw2_lt (zs_S a) 0 y
    have m1 : zs_sw2 (zs_S a) 1 y &&& zs_sw2 (zs_S a) 0 k ≤ zs_sw2 (zs_S a) 1 y := Nat.and_le_left
    have m0 : zs_sw2 (zs_S a) 0 y &&& zs_sw2 (zs_S a) 1 k ≤ zs_sw2 (zs_S a) 0 y := Nat.and_le_left
    have t1 := zs_two_le a 0 1 k y 12
    have t0 := zs_two_le a 1 0 k y 12
    refine gX0_foundFor_5 (fun q => absurd q (by rw [h.2.1]; exact nI_ge (by omega) (by omega))) (fun _ => ?_)
    refine gX0_foundFor_14 (vp_in_nI (by omega) (by decide)) (vp_in_nI (by omega) (by decide)) (by rw [zx_clamp (by omega), zx_clamp (by omega), f1, e0, fa_and]; exact k_bitCount (by omega)) (zq_i ?_)
    refine gX0_foundFor_31 (vp_in_nI (by omega) (by decide)) (vp_in_nI (by omega) (by decide)) (by rw [zx_clamp (by omega), zx_clamp (by omega), f0, e1, fa_and]; exact k_bitCount (by omega)) (zq_i ?_)
    rw [Nat.and_comm, zs_two_b, Nat.and_comm (zs_sw2 (zs_S a) 0 y), zs_two_b]
    have no : zs_need a 1 k y = false → zm_T zc_H (d + 1) mX0_foundFor (zq (.int (nI (zb (fun x => zs_need a 1 x y) (a.1 0 0)))) w) 78 [(0, .ref 2), (1, .int (nI y)), (2, .int (nI (a.1 0 2))), (3, .int (nI (zb (fun x => zs_need a 1 x y) k))), (4, .int (nI k))] [] w := by
      intro c
      refine gX0_foundFor_78 ?_
      rw [zb, c] at next
      simp only [Bool.false_eq_true, if_false, Nat.or_zero] at next
      rw [nI_1]
      exact next
    have en : zs_need a 1 k y = (decide (k ≠ y) && decide (zs_two a 0 1 k y 12 ≤ a.1 0 2 ∧ zs_two a 0 1 k y 12 < zs_two a 1 0 k y 12)) := rfl
    refine gX0_foundFor_50 (fun g => no ?_) (fun g => ?_)
    · rw [nI_eq (by omega) (by omega)] at g
      rw [en, g]; simp
    · rw [nI_eq (by omega) (by omega)] at g
      refine gX0_foundFor_58 (fun g2 => no ?_) (fun g2 => ?_)
      · rw [nI_ltI (by omega) (by omega)] at g2
        rw [en, decide_eq_false (p := _ ∧ _) (by omega), Bool.and_false]
      · rw [nI_ltI (by omega) (by omega)] at g2
        refine gX0_foundFor_64 (fun g3 => no ?_) (fun g3 => gX0_foundFor_71 (gX0_foundFor_78 ?_))
        · rw [nI_leI (by omega) (by omega)] at g3
          rw [en, decide_eq_false (p := _ ∧ _) (by omega), Bool.and_false]
        · rw [nI_leI (by omega) (by omega)] at g3
          have c : zs_need a 1 k y = true := by rw [en, decide_eq_true g, decide_eq_true (p := _ ∧ _) (by omega)]; rfl
          rw [zb, c] at next
          simp only [if_true] at next
          rw [zy_bit k (by omega), fa_or, nI_1]
          exact next
theorem k_foundFor {d : Nat} {a : zs_A} {w : zm_S} (h : zc_A a w) {y : Nat} (hy : y < 7) : zm_C zc_H (d + 1) mX0_foundFor [.ref 2, .int (nI y), .int (nI (a.1 0 2))] w (zq (.int (nI (zb (fun x => zs_need a 1 x y) (a.1 0 0)))) w) := by
  refine zm_C.of mtX0_foundFor.1.2.2.2.2.2.2 rfl (Nat.le_of_ble_eq_true rfl) ?_
  exact gX0_foundFor_0 (l_foundFor h hy (a.1 0 0) 0 (by omega))
