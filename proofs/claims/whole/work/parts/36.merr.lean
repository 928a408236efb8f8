theorem zs_Y_lt (a : zs_A) (h : zs_ok a) (p : Nat) : zs_Y a p < 128 := zb_lt7 _ h.1.2.1
theorem zs_N_lt (a : zs_A) (h : zs_ok a) (p : Nat) : zs_N a p < 128 := zb_lt7 _ h.1.2.1
theorem k_yes {d : Nat} {a : zs_A} {v : zm_S} (h : zd_P a v) (hS : zd_S a v) {p : Nat} (hp : p < 12) : zm_C zd_H (d + 1) mX8_bits [.ref 0, .int (nI p), .int 1] v (zq (.int (nI (zs_Y a p))) v) := k_bits h hS hp (x := 1) (by decide)
theorem k_no0 {d : Nat} {a : zs_A} {v : zm_S} (h : zd_P a v) (hS : zd_S a v) {p : Nat} (hp : p < 12) : zm_C zd_H (d + 1) mX8_bits [.ref 0, .int (nI p), .int 0] v (zq (.int (nI (zs_N a p))) v) := k_bits h hS hp (x := 0) (by decide)
theorem k_errorsOf {d : Nat} {a : zs_A} {v : zm_S} (h : zd_P a v) (hS : zd_S a v) {p s : Nat} (hp : p < 12) (hs : s < 128) : zm_C zd_H (d + 2) mX8_errorsOf [.ref 0, .int (nI p), .int (nI s)] v (zq (.int (nI (zs_err a p s))) v) := by
  refine zm_C.of mtX8_errorsOf.1.2.2.2.2.2.2 rfl (Nat.le_of_ble_eq_true rfl) ?_
  refine gX8_errorsOf_0 (k_yes h hS hp) (zq_i ?_)
  refine gX8_errorsOf_6 (by rw [zy_not (zs_Y_lt a h.1 p) hs]; exact k_ones (zy_and_lt (zs_Y_lt a h.1 p))) (zq_i ?_)
  refine gX8_errorsOf_13 (k_no0 h hS hp) (zq_i ?_)
  refine gX8_errorsOf_19 (by rw [fa_and]; exact k_ones (zy_and_lt (zs_N_lt a h.1 p))) (zq_i ?_)
  refine gX8_errorsOf_24 ?_
  rw [nI_add]
  exact zq_m _ _
def zs_errors (a : zs_A) (p s : Int32) : Int32 := if (0 ≤ p ∧ p < 12) ∧ 0 ≤ s ∧ s < 128 then nI (zs_err a p.toNatClampNeg s.toNatClampNeg) else -2
theorem zx_le127 (s : Int32) : s ≤ 127 ↔ s < 128 := by rw [fa_le, fa_lt]; show s.toInt ≤ 127 ↔ s.toInt < 128; omega
theorem k_in127 {d : Nat} {w : zm_S} (s : Int32) : zm_C zd_H d mX8_in [.long s.toInt64, .long 0, .long 127] w (zq (.int (zi (0 ≤ s ∧ s < 128))) w) := by
  have h := k_inI (d := d) (w := w) s 0 127 rfl rfl
  rw [zi_cong (show (0 ≤ s ∧ s ≤ 127) ↔ (0 ≤ s ∧ s < 128) by rw [zx_le127])] at h
  exact h
theorem m_errors {d : Nat} {a : zs_A} {v : zm_S} (h : zd_P a v) (p s : Int32) : zm_C zd_H (d + 3) mX8_errors [.ref 0, .int p, .int s] v (zp (.int (zs_errors a p s)) (zd_P a)) := by
  refine zm_C.of mtX8_errors.1.2.2.2.2.2.2 rfl (Nat.le_of_ble_eq_true rfl) ?_
  have bad : ∀ (hb : ¬ ((0 ≤ p ∧ p < 12) ∧ 0 ≤ s ∧ s < 128)), zm_T zd_H (d + 3) mX8_errors (zp (.int (zs_errors a p s)) (zd_P a)) 19 [] [] v := fun hb => gX8_errors_19 (by rw [zs_errors, if_neg hb]; exact ⟨rfl, h⟩)
  refine gX8_errors_0 (k_isPupil _) (zq_i ?_)
  refine gX8_errors_4 (fun h4 => bad (fun c => zi_0.mp h4 c.1)) (fun h4 => ?_)
  refine gX8_errors_7 (k_in127 s) (zq_i ?_)
  refine gX8_errors_16 (fun h16 => ?_) (fun h16 => bad (fun c => zi_0.mp h16 c.2))
  have hG := And.intro (zi_n0.mp h4) (zi_n0.mp h16)
  obtain ⟨p, hp, rfl⟩ := zx_of (n := 12) hG.1 (by decide)
  obtain ⟨s, hs, rfl⟩ := zx_of (n := 128) hG.2 (by decide)
  refine gX8_errors_22 (k_findSays h) (zp_v (fun u hu => ?_))
  refine gX8_errors_26 (k_errorsOf hu.1 hu.2 hp hs) (zq_i ?_)
  refine gX8_errors_32 ?_
  rw [zs_errors, if_pos hG, zx_clamp (by omega), zx_clamp (by omega)]
  exact ⟨rfl, hu.1⟩
/-- all answers that are x -/
def zs_all (a : zs_A) (x : Nat) : Nat → Nat := fun m => fb_sm (fun p => zpc (zb (fun q => decide (zs_S a p q = x)) (a.1 0 0))) m
theorem l_allAnswers {d : Nat} {a : zs_A} {v : zm_S} (h : zd_P a v) (hS : zd_S a v) {x : Nat} (hx : x < 3) : ∀ (m k : Nat), k + m = 12 → zm_T zd_H (d + 2) mX8_allAnswers (zq (.int (nI (zs_all a x 12))) v) 4 [(0, .ref 0), (1, .int (nI x)), (2, .int (nI (zs_all a x k))), (3, .int (nI k))] [] v := by
  intro m
  induction m with
  | zero =>
    intro k hk
    obtain rfl : k = 12 := by omega
    exact gX8_allAnswers_4 (fun _ => gX8_allAnswers_28 (zq_m _ _)) (fun q => absurd (by decide) q)
  | succ m ih =>
    intro k hk
    refine gX8_allAnswers_4 (fun q => absurd q (nI_ge (b := 12) (by omega) (by decide))) (fun _ => ?_)
    refine gX8_allAnswers_10 (k_bits h hS (by omega) hx) (zq_i ?_)
    refine gX8_allAnswers_17 (k_ones (zb_lt7 _ h.1.1.2.1)) (zq_i ?_)
    refine gX8_allAnswers_20 ?_
    rw [nI_add, nI_1]
    exact ih (k + 1) (by omega)
theorem k_allAnswers {d : Nat} {a : zs_A} {v : zm_S} (h : zd_P a v) (hS : zd_S a v) {x : Nat} (hx : x < 3) : zm_C zd_H (d + 2) mX8_allAnswers [.ref 0, .int (nI x)] v (zq (.int (nI (zs_all a x 12))) v) := by
  refine zm_C.of mtX8_allAnswers.1.2.2.2.2.2.2 rfl (Nat.le_of_ble_eq_true rfl) ?_
  exact gX8_allAnswers_0 (l_allAnswers h hS hx 12 0 (by omega))
def zs_some (a : zs_A) (p : Nat) : Prop := zs_N a p ||| zs_Y a p ≠ 0
theorem zy_or0 {x y : Nat} (hx : x < 128) (hy : y < 128) : (nI x ||| nI y = 0) ↔ x ||| y = 0 := by
  rw [fa_or]
  have := zy_or_lt hx hy
  exact nI_eq (b := 0) (by omega) (by decide)
theorem k_isSome {d : Nat} {a : zs_A} {v : zm_S} (h : zd_P a v) (hS : zd_S a v) {p : Nat} (hp : p < 12) : zm_C zd_H (d + 2) mX8_isSome [.ref 0, .int (nI p)] v (zq (.int (zi (zs_N a p ||| zs_Y a p ≠ 0))) v) := by
  refine zm_C.of mtX8_isSome.1.2.2.2.2.2.2 rfl (Nat.le_of_ble_eq_true rfl) ?_
  refine gX8_isSome_0 (k_no0 h hS hp) (zq_i ?_)
  refine gX8_isSome_6 (k_yes h hS hp) (zq_i ?_)
  refine gX8_isSome_12 (fun q => gX8_isSome_20 ?_) (fun q => gX8_isSome_16 ?_)
  · rw [zy_or0 (zs_N_lt a h.1 p) (zs_Y_lt a h.1 p)] at q
    rw [zi_f (fun c => c q)]
    exact zq_m _ _
  · rw [zy_or0 (zs_N_lt a h.1 p) (zs_Y_lt a h.1 p)] at q
    rw [zi_t q]
    exact zq_m _ _
def zs_with (a : zs_A) (m : Nat) : Nat := fb_ct (fun p => decide (zs_N a p ||| zs_Y a p ≠ 0)) m
theorem zs_with_1 (a : zs_A) (m : Nat) : zs_with a (m + 1) = zs_with a m + (if zs_N a m ||| zs_Y a m ≠ 0 then 1 else 0) := by
  by_cases h : zs_N a m ||| zs_Y a m ≠ 0
  · rw [if_pos h, zs_with, fb_ct_succ, if_pos (decide_eq_true h)]
    rfl
  · rw [if_neg h, zs_with, fb_ct_succ, if_neg (by rw [decide_eq_true_iff]; exact h)]
    rfl
theorem l_pupilsWith {d : Nat} {a : zs_A} {v : zm_S} (h : zd_P a v) (hS : zd_S a v) : ∀ (m k : Nat), k + m = 12 → zm_T zd_H (d + 3) mX8_pupilsWith (zq (.int (nI (zs_with a 12))) v) 4 [(0, .ref 0), (1, .int (nI (zs_with a k))), (2, .int (nI k))] [] v := by
  intro m
  induction m with
  | zero =>
    intro k hk
    obtain rfl : k = 12 := by omega
    exact gX8_pupilsWith_4 (fun _ => gX8_pupilsWith_32 (zq_m _ _)) (fun q => absurd (by decide) q)
  | succ m ih =>
    intro k hk
    refine gX8_pupilsWith_4 (fun q => absurd q (nI_ge (b := 12) (by omega) (by decide))) (fun _ => ?_)
    refine gX8_pupilsWith_10 (k_isSome h hS (by omega)) (zq_i ?_)
    have := ih (k + 1) (by omega)
    refine gX8_pupilsWith_16 (fun q => gX8_pupilsWith_23 (gX8_pupilsWith_24 ?_)) (fun q => gX8_pupilsWith_19 (gX8_pupilsWith_24 ?_))
    · rw [zi_0] at q
      rw [zs_with_1 a k, if_neg q] at this
      rw [show (0 : Int32) = nI 0 from rfl, nI_add, nI_1]
      exact this
    · rw [zi_n0] at q
      rw [zs_with_1 a k, if_pos q] at this
      rw [show (1 : Int32) = nI 1 from rfl, nI_add, show nI k + nI 1 = nI (k + 1) from nI_add k 1]
      exact this
theorem k_pupilsWith {d : Nat} {a : zs_A} {v : zm_S} (h : zd_P a v) (hS : zd_S a v) : zm_C zd_H (d + 3) mX8_pupilsWith [.ref 0] v (zq (.int (nI (zs_with a 12))) v) := by
  refine zm_C.of mtX8_pupilsWith.1.2.2.2.2.2.2 rfl (Nat.le_of_ble_eq_true rfl) ?_
  exact gX8_pupilsWith_0 (l_pupilsWith h hS 12 0 (by omega))
/-- of a question: how many said x among the first m -/
def zs_c (a : zs_A) (x q m : Nat) : Nat := fb_ct (fun p => decide (zs_S a p q = x)) m
theorem zs_c_1 (a : zs_A) (x q m : Nat) : zs_c a x q (m + 1) = zs_c a x q m + (if zs_S a m q = x then 1 else 0) := by
  rw [zs_c, fb_ct_succ]
  simp [zs_c]
def zs_sh (a : zs_A) (m : Nat) : Nat := fb_sm (fun q => max (zs_c a 1 q 12) (zs_c a 0 q 12)) m
theorem zs_c_le (a : zs_A) (x q m : Nat) : zs_c a x q m ≤ m := fb_ct_le _ _
theorem l_shares2 {d : Nat} {a : zs_A} {v : zm_S} (h : zd_P a v) (hS : zd_S a v) {Q : Value → zm_S → Prop} {q c : Nat} (hq : q < 7) (hk : zm_T zd_H d mX8_shares Q 82 [(0, .ref 0), (1, .int (nI c)), (2, .int (nI q)), (3, .int (nI (zs_c a 1 q 12))), (4, .int (nI (zs_c a 0 q 12)))] [] v) : ∀ (m k : Nat), k + m = 12 → zm_T zd_H d mX8_shares Q 20 [(0, .ref 0), (1, .int (nI c)), (2, .int (nI q)), (3, .int (nI (zs_c a 1 q k))), (4, .int (nI (zs_c a 0 q k))), (5, .int (nI k))] [] v := by
  intro m
  induction m with
  | zero =>
    intro k hk2
    obtain rfl : k = 12 := by omega
    exact gX8_shares_20 (fun _ => hk) (fun q => absurd (by decide) q)
  | succ m ih =>
    intro k hk2
    have e : v.1 10 ((7 : Int32) * nI k + nI q).toNatClampNeg = nI (zs_S a k q) := by rw [zx_7, zx_clamp (by omega)]; exact hS k q (by omega) hq
    have hs := zs_S_lt h.1 k q
    have e1 : nI (zs_S a k q) = 1 ↔ zs_S a k q = 1 := nI_eq (b := 1) (by omega) (by decide)
    have e0 : nI (zs_S a k q) = 0 ↔ zs_S a k q = 0 := nI_eq (b := 0) (by omega) (by decide)
    have hin : vp_in ((7 : Int32) * nI k + nI q) 84 := by rw [zx_7]; exact vp_in_nI (by omega) (by decide)
    have next := ih (k + 1) (by omega)
    rw [zs_c_1, zs_c_1] at next
    have two : zm_T zd_H d mX8_shares Q 49 [(0, .ref 0), (1, .int (nI c)), (2, .int (nI q)), (4, .int (nI (zs_c a 0 q k))), (5, .int (nI k))] [.int (nI (if zs_S a k q = 1 then 1 else 0)), .int (nI (zs_c a 1 q k))] v := by
      refine gX8_shares_49 hin (fun g => gX8_shares_72 (gX8_shares_73 ?_)) (fun g => gX8_shares_68 (gX8_shares_73 ?_))
      · rw [e, e0] at g
        rw [if_neg g] at next
        rw [nI_add, show (0 : Int32) = nI 0 from rfl, nI_add, nI_1]
        exact next
      · rw [e, e0] at g
        rw [if_pos g] at next
        rw [nI_add, show (1 : Int32) = nI 1 from rfl, nI_add, show nI k + nI 1 = nI (k + 1) from nI_add k 1]
        exact next
    refine gX8_shares_20 (fun q => absurd q (nI_ge (b := 12) (by omega) (by decide))) (fun _ => ?_)
    refine gX8_shares_27 hin (fun g => gX8_shares_48 ?_) (fun g => gX8_shares_44 ?_)
    · rw [e, e1] at g
      rw [if_neg g] at two
      exact two
    · rw [e, e1] at g
      rw [if_pos g] at two
      exact two
theorem l_shares1 {d : Nat} {a : zs_A} {v : zm_S} (h : zd_P a v) (hS : zd_S a v) : ∀ (m k : Nat), k + m = a.1 0 0 → zm_T zd_H (d + 1) mX8_shares (zq (.int (nI (zs_sh a (a.1 0 0)))) v) 4 [(0, .ref 0), (1, .int (nI (zs_sh a k))), (2, .int (nI k))] [] v := by
  intro m
  have hn := h.1.1
  induction m with
  | zero =>
    intro k hk
    obtain rfl : k = a.1 0 0 := by omega
    refine gX8_shares_4 (k_n h) (zq_i ?_)
    exact gX8_shares_9 (fun _ => gX8_shares_103 (zq_m _ _)) (fun q => absurd (Int32.le_refl _) q)
  | succ m ih =>
    intro k hk
    refine gX8_shares_4 (k_n h) (zq_i ?_)
    refine gX8_shares_9 (fun q => absurd q (nI_ge (by omega) (by omega))) (fun _ => gX8_shares_12 ?_)
    refine l_shares2 h hS (by omega) ?_ 12 0 (by omega)
    have c1 := zs_c_le a 1 k 12
    have c0 := zs_c_le a 0 k 12
    have next := ih (k + 1) (by omega)
    rw [show zs_sh a (k + 1) = zs_sh a k + max (zs_c a 1 k 12) (zs_c a 0 k 12) from fb_sm_succ _ _] at next
    refine gX8_shares_82 (fun g => gX8_shares_93 (gX8_shares_95 ?_)) (fun g => gX8_shares_89 (gX8_shares_95 ?_))
    · rw [nI_leI (by omega) (by omega)] at g
      rw [Nat.max_eq_right g] at next
      rw [nI_add, nI_1]
      exact next
    · rw [nI_leI (by omega) (by omega)] at g
      rw [Nat.max_eq_left (by omega)] at next
      rw [nI_add, nI_1]
      exact next
theorem k_shares {d : Nat} {a : zs_A} {v : zm_S} (h : zd_P a v) (hS : zd_S a v) : zm_C zd_H (d + 1) mX8_shares [.ref 0] v (zq (.int (nI (zs_sh a (a.1 0 0)))) v) := by
  refine zm_C.of mtX8_shares.1.2.2.2.2.2.2 rfl (Nat.le_of_ble_eq_true rfl) ?_
  exact gX8_shares_0 (l_shares1 h hS (a.1 0 0) 0 (by omega))
/-- how many said x to the one and y to the other -/
def zs_two (a : zs_A) (x y b c m : Nat) : Nat := fb_ct (fun p => decide (zs_S a p b = x ∧ zs_S a p c = y)) m
theorem zs_two_1 (a : zs_A) (x y b c m : Nat) : zs_two a x y b c (m + 1) = zs_two a x y b c m + (if zs_S a m b = x ∧ zs_S a m c = y then 1 else 0) := by
  rw [zs_two, fb_ct_succ]
  simp [zs_two]
theorem zs_two_le (a : zs_A) (x y b c m : Nat) : zs_two a x y b c m ≤ m := fb_ct_le _ _
def zs_found (a : zs_A) (b c : Nat) : Prop := zs_two a 0 1 b c 12 ≤ a.1 0 2 ∧ zs_two a 0 1 b c 12 < zs_two a 1 0 b c 12
theorem l_isFound {d : Nat} {a : zs_A} {v : zm_S} (h : zd_P a v) (hS : zd_S a v) {Q : Value → zm_S → Prop} {b c : Nat} (hb : b < 7) (hc : c < 7) (hk : zm_T zd_H d mX8_isFound Q 89 [(0, .ref 0), (3, .int (nI (zs_two a 1 0 b c 12))), (4, .int (nI (zs_two a 0 1 b c 12)))] [] v) : ∀ (m k : Nat), k + m = 12 → zm_T zd_H d mX8_isFound Q 8 [(0, .ref 0), (1, .int (nI b)), (2, .int (nI c)), (3, .int (nI (zs_two a 1 0 b c k))), (4, .int (nI (zs_two a 0 1 b c k))), (5, .int (nI k))] [] v := by
  intro m
  induction m with
  | zero =>
    intro k hk2
    obtain rfl : k = 12 := by omega
    exact gX8_isFound_8 (fun _ => hk) (fun q => absurd (by decide) q)
  | succ m ih =>
    intro k hk2
    have eb : v.1 10 ((7 : Int32) * nI k + nI b).toNatClampNeg = nI (zs_S a k b) := by rw [zx_7, zx_clamp (by omega)]; exact hS k b (by omega) hb
    have ec : v.1 10 ((7 : Int32) * nI k + nI c).toNatClampNeg = nI (zs_S a k c) := by rw [zx_7, zx_clamp (by omega)]; exact hS k c (by omega) hc
    have hsb := zs_S_lt h.1 k b
    have hsc := zs_S_lt h.1 k c
    have f : ∀ (z y : Nat), z < 3 → y < 3 → (nI z = nI y ↔ z = y) := fun z y h1 h2 => nI_eq (by omega) (by omega)
    have next := ih (k + 1) (by omega)
    rw [zs_two_1, zs_two_1] at next
    refine gX8_isFound_8 (fun q => absurd q (nI_ge (b := 12) (by omega) (by decide))) (fun _ => ?_)
    have two : zm_T zd_H d mX8_isFound Q 60 [(0, .ref 0), (1, .int (nI b)), (2, .int (nI c)), (4, .int (nI (zs_two a 0 1 b c k))), (5, .int (nI k)), (6, .int (nI (zs_S a k b))), (7, .int (nI (zs_S a k c)))] [.int (nI (if zs_S a k b = 1 ∧ zs_S a k c = 0 then 1 else 0)), .int (nI (zs_two a 1 0 b c k))] v := by
      have no : ∀ (g : ¬ (zs_S a k b = 0 ∧ zs_S a k c = 1)), zm_T zd_H d mX8_isFound Q 79 [(0, .ref 0), (1, .int (nI b)), (2, .int (nI c)), (3, .int (nI (zs_two a 1 0 b c k) + nI (if zs_S a k b = 1 ∧ zs_S a k c = 0 then 1 else 0))), (5, .int (nI k))] [.int (nI (zs_two a 0 1 b c k))] v := fun g => by
        refine gX8_isFound_79 (gX8_isFound_80 ?_)
        rw [if_neg g] at next
        rw [nI_add, show (0 : Int32) = nI 0 from rfl, nI_add, nI_1]
        exact next
      refine gX8_isFound_60 (fun g => ?_) (fun g => gX8_isFound_69 (fun g2 => ?_) (fun g2 => gX8_isFound_75 (gX8_isFound_80 ?_)))
      · rw [show (0 : Int32) = nI 0 from rfl, f _ _ hsb (by decide)] at g
        exact no (fun q => g q.1)
      · rw [show (1 : Int32) = nI 1 from rfl, f _ _ hsc (by decide)] at g2
        exact no (fun q => g2 q.2)
      · rw [show (0 : Int32) = nI 0 from rfl, f _ _ hsb (by decide)] at g
        rw [show (1 : Int32) = nI 1 from rfl, f _ _ hsc (by decide)] at g2
        rw [if_pos (And.intro g g2)] at next
        rw [nI_add, show (1 : Int32) = nI 1 from rfl, nI_add, show nI k + nI 1 = nI (k + 1) from nI_add k 1]
        exact next
    refine gX8_isFound_15 (by rw [zx_7]; exact vp_in_nI (by omega) (by decide)) (by rw [zx_7]; exact vp_in_nI (by omega) (by decide)) (fun g => ?_) (fun g => ?_)
    · rw [eb, show (1 : Int32) = nI 1 from rfl, f _ _ hsb (by decide)] at g
      rw [eb, ec]
      refine gX8_isFound_59 ?_
      rw [if_neg (fun q => g q.1)] at two
      exact two
    · rw [eb, show (1 : Int32) = nI 1 from rfl, f _ _ hsb (by decide)] at g
      rw [eb, ec]
      refine gX8_isFound_50 (fun g2 => gX8_isFound_59 ?_) (fun g2 => gX8_isFound_55 ?_)
      · rw [show (0 : Int32) = nI 0 from rfl, f _ _ hsc (by decide)] at g2
        rw [if_neg (fun q => g2 q.2)] at two
        exact two
      · rw [show (0 : Int32) = nI 0 from rfl, f _ _ hsc (by decide)] at g2
        rw [if_pos (And.intro g g2)] at two
        exact two
theorem k_isFound {d : Nat} {a : zs_A} {v : zm_S} (h : zd_P a v) (hS : zd_S a v) {b c : Nat} (hb : b < 7) (hc : c < 7) : zm_C zd_H d mX8_isFound [.ref 0, .int (nI b), .int (nI c)] v (zq (.int (zi (zs_two a 0 1 b c 12 ≤ a.1 0 2 ∧ zs_two a 0 1 b c 12 < zs_two a 1 0 b c 12))) v) := by
  refine zm_C.of mtX8_isFound.1.2.2.2.2.2.2 rfl (Nat.le_of_ble_eq_true rfl) ?_
  refine gX8_isFound_0 ?_
  refine l_isFound h hS hb hc ?_ 12 0 (by omega)
  have l1 := zs_two_le a 0 1 b c 12
  have l2 := zs_two_le a 1 0 b c 12
  have := h.1.1
  refine gX8_isFound_89 zx_in2 (fun g => gX8_isFound_110 ?_) (fun g => ?_)
  · rw [show (2 : Int32).toNatClampNeg = 2 from rfl, h.2.1 2 (by decide), nI_ltI (by omega) (by omega)] at g
    rw [zi_f (fun q => by omega)]
    exact zq_m _ _
  · rw [show (2 : Int32).toNatClampNeg = 2 from rfl, h.2.1 2 (by decide), nI_ltI (by omega) (by omega)] at g
    refine gX8_isFound_100 (fun g2 => gX8_isFound_110 ?_) (fun g2 => gX8_isFound_106 ?_)
    · rw [nI_leI (by omega) (by omega)] at g2
      rw [zi_f (fun q => by omega)]
      exact zq_m _ _
    · rw [nI_leI (by omega) (by omega)] at g2
      rw [zi_t ⟨by omega, by omega⟩]
      exact zq_m _ _
