/-! ===== calls on rows ===== -/
theorem c_off {d : Nat} {a : zs_A} {w : zm_S} (h : zc_P a w) (x : Int32) : zm_C zc_H (d + 10) mX7_off [.ref 0, .int x] w (zp (.int (zs_off a x)) (zc_P a)) := by
  refine zm_C.of mtX7_off.1.2.2.2.2.2.2 rfl (Nat.le_of_ble_eq_true rfl) ?_
  refine gX7_off_0 (k_within _ _) (zq_i ?_)
  refine gX7_off_5 (fun g => ?_) (fun g => gX7_off_8 (by rw [zs_off, if_neg (zi_0.mp g)]; exact ⟨rfl, h⟩))
  rw [zs_off, if_pos (zi_n0.mp g)]
  refine gX7_off_11 (k_searchBest h) (zp_v (fun u hu => ?_))
  obtain ⟨u0, ⟨u7, r8, r9, r10, r14, r15, r21, r22, rl⟩, uB⟩ := id hu
  refine gX7_off_22 (fun g2 => gX7_off_36 ?_) (fun g2 => gX7_off_26 ?_)
  · rw [if_neg g2, r15]; exact ⟨rfl, hu.P⟩
  · rw [if_pos g2, r14]; exact ⟨rfl, hu.P⟩
theorem c_row {d : Nat} {a : zs_A} {w : zm_S} (h : zc_P a w) (i : Int32) : zm_C zc_H (d + 10) mX7_row [.ref 0, .int i] w (zp (.int (zs_row a i)) (zc_P a)) := by
  refine zm_C.of mtX7_row.1.2.2.2.2.2.2 rfl (Nat.le_of_ble_eq_true rfl) ?_
  have hn := h.1.1.1.1.2.1
  refine gX7_row_0 (k_isQuestionC h.1.1 i) (zq_i ?_)
  refine gX7_row_5 (fun g => ?_) (fun g => gX7_row_8 (by rw [zs_row, if_neg (zi_0.mp g)]; exact ⟨rfl, h⟩))
  have hG := zi_n0.mp g
  rw [zs_row, if_pos hG]
  obtain ⟨j, hj, rfl⟩ := zx_of hG (by omega)
  refine gX7_row_11 (k_searchBest h) (zp_v (fun u hu => gX7_row_22 (vp_in_nI (by omega) (by decide)) ?_))
  obtain ⟨u0, ⟨u7, r8, r9, r10, r14, r15, r21, r22, rl⟩, uB⟩ := id hu
  rw [zx_clamp (by omega), r21 j hj]
  exact ⟨rfl, hu.P⟩
theorem k_offB {d : Nat} {a : zs_A} {w : zm_S} (h : zc_S a w) {p : Nat} (hp : p < 12) : zm_C zc_H (d + 3) mX0_offIn [.ref 2, .int (nI p), .ref 21] w (zq (.int (nI (zs_spw a p 1))) w) := k_offIn h.1.1 hp (o := 21) (n := 7) rfl (by decide) (by decide) (l := (zs_best a none none).2.2) (fun _ hj => zs_best_lt h.1.1.1 hj) h.2.1.2.2.2.2.2.2.1
theorem c_step {d : Nat} {a : zs_A} {w : zm_S} (h : zc_P a w) (p x : Int32) : zm_C zc_H (d + 10) mX7_step [.ref 0, .int p, .int x] w (zp (.int (zs_step a p x)) (zc_P a)) := by
  refine zm_C.of mtX7_step.1.2.2.2.2.2.2 rfl (Nat.le_of_ble_eq_true rfl) ?_
  have bad : ¬ ((0 ≤ p ∧ p < 12) ∧ 0 ≤ x ∧ x < 2) → zm_T zc_H (d + 10) mX7_step (zp (.int (zs_step a p x)) (zc_P a)) 17 [] [] w := fun hb => gX7_step_17 (by rw [zs_step, if_neg hb]; exact ⟨rfl, h⟩)
  refine gX7_step_0 (k_within _ _) (zq_i ?_)
  refine gX7_step_6 (fun g => bad (fun c => zi_0.mp g c.1)) (fun g1 => ?_)
  refine gX7_step_9 (k_within _ _) (zq_i ?_)
  refine gX7_step_14 (fun g2 => ?_) (fun g => bad (fun c => zi_0.mp g c.2))
  have hG : (0 ≤ p ∧ p < 12) ∧ 0 ≤ x ∧ x < 2 := ⟨zi_n0.mp g1, zi_n0.mp g2⟩
  rw [zs_step, if_pos hG]
  obtain ⟨p, hp, rfl⟩ := zx_of (n := 12) hG.1 (by decide)
  obtain ⟨x, hx, rfl⟩ := zx_of (n := 2) hG.2 (by decide)
  rw [zx_clamp (by omega), zx_clamp (by omega)]
  refine gX7_step_20 (k_searchBest h) (zp_v (fun u hu => ?_))
  refine gX7_step_31 (fun g => ?_) (fun g => ?_)
  · obtain rfl : x = 1 := by
      have : x ≠ 0 := fun z => g (by rw [z]; rfl)
      omega
    exact gX7_step_53 (k_offB hu hp) (zq_i (gX7_step_68 ⟨rfl, hu.P⟩))
  · obtain rfl : x = 0 := (nI_eq (b := 0) (by omega) (by decide)).mp g
    refine gX7_step_35 (k_stepIn hu.1.1 hp (o := 21) (n := 7) rfl (by decide) (by decide) (l := (zs_best a none none).2.2) (fun _ hj => zs_best_lt hu.1.1.1 hj) hu.2.1.2.2.2.2.2.2.1) (zq_i (gX7_step_50 (gX7_step_68 ⟨rfl, hu.P⟩)))
theorem l_oddC {d : Nat} {a : zs_A} {w : zm_S} (h : zc_S a w) : ∀ (m k : Nat), k + m = 12 → zm_T zc_H (d + 4) mX7_odd (zq (.int (zs_od a 12).1) w) 17 [(0, .ref 0), (1, .int (zs_od a k).1), (2, .int (nI (zs_od a k).2)), (3, .int (nI k))] [] w := by
  intro m
  induction m with
  | zero =>
    intro k hk
    obtain rfl : k = 12 := by omega
    exact gX7_odd_17 (fun _ => gX7_odd_57 (zq_m _ _)) (fun q => absurd (by decide) q)
  | succ m ih =>
    intro k hk
    have hle := zs_od_le a k
    have hw := zs_spw_le (a := a) k
    have next := ih (k + 1) (by omega)
    rw [show zs_od a (k + 1) = if (zs_od a k).2 < zs_spw a k 1 then (nI k, zs_spw a k 1) else zs_od a k from rfl] at next
    refine gX7_odd_17 (fun q => absurd q (nI_ge (b := 12) (by omega) (by omega))) (fun _ => ?_)
    refine gX7_odd_23 (k_offB h (by omega)) (zq_i ?_)
    refine gX7_odd_38 (fun g => gX7_odd_51 ?_) (fun g => gX7_odd_46 (gX7_odd_51 ?_))
    · rw [nI_leI (by omega) (by omega)] at g
      rw [if_neg (by omega)] at next
      rw [nI_1]
      exact next
    · rw [nI_leI (by omega) (by omega)] at g
      rw [if_pos (by omega)] at next
      rw [nI_1]
      exact next
theorem c_odd {d : Nat} {a : zs_A} {w : zm_S} (h : zc_P a w) : zm_C zc_H (d + 10) mX7_odd [.ref 0] w (zp (.int (zs_od a 12).1) (zc_P a)) := by
  refine zm_C.of mtX7_odd.1.2.2.2.2.2.2 rfl (Nat.le_of_ble_eq_true rfl) ?_
  refine gX7_odd_0 (k_searchBest h) (zp_v (fun u hu => gX7_odd_11 ?_))
  exact zm_T.post (fun r z hz => ⟨hz.1, by rw [hz.2]; exact hu.P⟩) (l_oddC (d := d + 6) hu 12 0 rfl)
theorem c_without {d : Nat} {a : zs_A} {w : zm_S} (h : zc_P a w) (q x : Int32) : zm_C zc_H (d + 10) mX7_without [.ref 0, .int q, .int x] w (zp (.int (zs_without a q x)) (zc_P a)) := by
  refine zm_C.of mtX7_without.1.2.2.2.2.2.2 rfl (Nat.le_of_ble_eq_true rfl) ?_
  have hn := h.1.1.1.1.2.1
  have bad : ¬ ((0 ≤ q ∧ q < nI (a.1 0 0)) ∧ 0 ≤ x ∧ x < 2) → zm_T zc_H (d + 10) mX7_without (zp (.int (zs_without a q x)) (zc_P a)) 16 [] [] w := fun hb => gX7_without_16 (by rw [zs_without, if_neg hb]; exact ⟨rfl, h⟩)
  refine gX7_without_0 (k_isQuestionC h.1.1 q) (zq_i ?_)
  refine gX7_without_5 (fun g => bad (fun c => zi_0.mp g c.1)) (fun g1 => ?_)
  refine gX7_without_8 (k_within _ _) (zq_i ?_)
  refine gX7_without_13 (fun g2 => ?_) (fun g => bad (fun c => zi_0.mp g c.2))
  have hG : (0 ≤ q ∧ q < nI (a.1 0 0)) ∧ 0 ≤ x ∧ x < 2 := ⟨zi_n0.mp g1, zi_n0.mp g2⟩
  rw [zs_without, if_pos hG]
  obtain ⟨q, hq, rfl⟩ := zx_of hG.1 (by omega)
  obtain ⟨x, hx, rfl⟩ := zx_of (n := 2) hG.2 (by decide)
  rw [zx_clamp (by omega), zx_clamp (by omega)]
  refine gX7_without_19 (k_searchBest h) (zp_v (fun u hu => ?_))
  exact gX7_without_30 (k_offChanged hu hq hx) (zp_i (fun v hv => gX7_without_39 ⟨rfl, hv.P⟩))
/-- the least of some -/
theorem zs_wr2_q {a : zs_A} (h : zs_ok a) (w : Nat) : ∀ k, k + 1 ≤ a.1 0 0 → ∃ q, q < k + 1 ∧ zs_wr2 a w (k + 1) = (nI q, zs_wo a q w)
  | 0, hk => ⟨0, by decide, by
    have := zs_wo_le h (q := 0) (w := w) (by omega)
    show (if zs_wo a 0 w < 10000 then (nI 0, zs_wo a 0 w) else (-1, 10000)) = _
    rw [if_pos (by omega)]⟩
  | k + 1, hk => by
    obtain ⟨q, hq, e⟩ := zs_wr2_q h w k (by omega)
    rw [show zs_wr2 a w (k + 1 + 1) = if zs_wo a (k + 1) w < (zs_wr2 a w (k + 1)).2 then (nI (k + 1), zs_wo a (k + 1) w) else zs_wr2 a w (k + 1) from rfl, e]
    by_cases c : zs_wo a (k + 1) w < zs_wo a q w
    · rw [if_pos c]; exact ⟨k + 1, by omega, rfl⟩
    · rw [if_neg c]; exact ⟨q, by omega, rfl⟩
theorem l_worstC {d : Nat} {a : zs_A} {x : Nat} (hx : x < 2) : ∀ (m k : Nat) (w : zm_S), zc_S a w → k + 1 + m = a.1 0 0 → zm_T zc_H (d + 10) mX7_worst (zp (.int (zs_wr2 a x (a.1 0 0)).1) (zc_P a)) 26 [(0, .ref 0), (1, .int (nI x)), (2, .int (zs_wr2 a x (k + 1)).1), (3, .int (nI (k + 1)))] [] w := by
  intro m
  induction m with
  | zero =>
    intro k w h hk
    have e9 := h.1.1.2.1
    rw [show a.1 0 0 = k + 1 by omega] at e9 ⊢
    exact gX7_worst_26 (fun _ => gX7_worst_66 ⟨rfl, h.P⟩) (fun q => absurd (by rw [e9]; exact Int32.le_refl _) q)
  | succ m ih =>
    intro k w h hk
    have ha := h.1.1.1
    have hn := ha.1.2.1
    have e9 := h.1.1.2.1
    obtain ⟨q, hq, eq⟩ := zs_wr2_q ha x k (by omega)
    have w1 := zs_wo_le ha (q := k + 1) (w := x) (by omega)
    have w2 := zs_wo_le ha (q := q) (w := x) (by omega)
    have next := ih (k + 1)
    rw [show zs_wr2 a x (k + 1 + 1) = if zs_wo a (k + 1) x < (zs_wr2 a x (k + 1)).2 then (nI (k + 1), zs_wo a (k + 1) x) else zs_wr2 a x (k + 1) from rfl] at next
    rw [eq] at next ⊢
    refine gX7_worst_26 (fun z => absurd z (by rw [e9]; exact nI_ge (by omega) (by omega))) (fun _ => ?_)
    refine gX7_worst_37 (k_offChanged h (by omega) hx) (zp_i (fun u hu => ?_))
    refine gX7_worst_46 (k_offChanged hu (by omega) hx) (zp_i (fun v hv => ?_))
    refine gX7_worst_55 (fun g => gX7_worst_60 ?_) (fun g => gX7_worst_58 (gX7_worst_60 ?_))
    · rw [nI_leI (by omega) (by omega)] at g
      rw [if_neg (by omega)] at next
      rw [nI_1]
      exact next v hv (by omega)
    · rw [nI_leI (by omega) (by omega)] at g
      rw [if_pos (by omega)] at next
      rw [nI_1]
      exact next v hv (by omega)
theorem c_worst {d : Nat} {a : zs_A} {w : zm_S} (h : zc_P a w) (x : Int32) : zm_C zc_H (d + 10) mX7_worst [.ref 0, .int x] w (zp (.int (zs_worst a x)) (zc_P a)) := by
  refine zm_C.of mtX7_worst.1.2.2.2.2.2.2 rfl (Nat.le_of_ble_eq_true rfl) ?_
  refine gX7_worst_0 (k_within _ _) (zq_i ?_)
  refine gX7_worst_5 (fun g => ?_) (fun g => gX7_worst_8 (by rw [zs_worst, if_neg (zi_0.mp g)]; exact ⟨rfl, h⟩))
  have hG := zi_n0.mp g
  rw [zs_worst, if_pos hG]
  obtain ⟨x, hx, rfl⟩ := zx_of (n := 2) hG (by decide)
  rw [zx_clamp (by omega)]
  refine gX7_worst_11 (k_searchBest h) (zp_v (fun u hu => gX7_worst_22 ?_))
  have h2 := hu.1.1.1.1.1
  obtain ⟨q, hq, eq⟩ := zs_wr2_q hu.1.1.1 x 0 (by omega)
  obtain rfl : q = 0 := by omega
  have := l_worstC (d := d) hx (a.1 0 0 - 1) 0 u hu (by omega)
  rw [eq] at this
  exact this
theorem c_fit {d : Nat} {a : zs_A} {w : zm_S} (h : zc_P a w) (x y : Int32) : zm_C zc_H (d + 10) mX7_fit [.ref 0, .int x, .int y] w (zp (.long (zs_fit a x y)) (zc_P a)) := by
  refine zm_C.of mtX7_fit.1.2.2.2.2.2.2 rfl (Nat.le_of_ble_eq_true rfl) ?_
  have ha := h.1.1.1
  have ha0 := zs_all_le a 0
  have ha1 := zs_all_le a 1
  have hsh := zs_sh_le a ha
  have hbl := zs_best_all ha
  have hal : zs_al a ≤ 336 := by unfold zs_al; omega
  have bad : ¬ ((0 ≤ x ∧ x < 2) ∧ 0 ≤ y ∧ y < 2) → zm_T zc_H (d + 10) mX7_fit (zp (.long (zs_fit a x y)) (zc_P a)) 16 [] [] w := fun hb => gX7_fit_16 (k_refusal _) (zq_l (gX7_fit_21 (by rw [zs_fit, if_neg hb]; exact ⟨rfl, h⟩)))
  refine gX7_fit_0 (k_within _ _) (zq_i ?_)
  refine gX7_fit_5 (fun g => bad (fun c => zi_0.mp g c.1)) (fun g1 => ?_)
  refine gX7_fit_8 (k_within _ _) (zq_i ?_)
  refine gX7_fit_13 (fun g2 => ?_) (fun g => bad (fun c => zi_0.mp g c.2))
  have hG : (0 ≤ x ∧ x < 2) ∧ 0 ≤ y ∧ y < 2 := ⟨zi_n0.mp g1, zi_n0.mp g2⟩
  rw [zs_fit, if_pos hG]
  obtain ⟨x, hx, rfl⟩ := zx_of (n := 2) hG.1 (by decide)
  obtain ⟨y, hy, rfl⟩ := zx_of (n := 2) hG.2 (by decide)
  rw [zx_clamp (by omega), zx_clamp (by omega)]
  refine gX7_fit_22 (k_givenByAll h.1.1) (zq_i ?_)
  refine gX7_fit_29 (fun g => ?_) (fun g => gX7_fit_34 (k_refusal _) (zq_l (gX7_fit_39 ?_)))
  rotate_left
  · rw [zs_fitN, if_pos ((nI_eq (b := 0) (by omega) (by decide)).mp g)]
    exact ⟨rfl, h⟩
  have g0 : ¬ zs_al a = 0 := fun q => g (by rw [q]; rfl)
  rw [zs_fitN, if_neg g0]
  refine gX7_fit_40 (k_searchBest h) (zp_v (fun u hu => ?_))
  obtain ⟨u0, ⟨u7, r8, r9, r10, r14, r15, r21, r22, rl⟩, uB⟩ := id hu
  refine gX7_fit_51 (fun g2 => ?_) (fun g2 => gX7_fit_55 ?_)
  · rw [if_neg (fun q => g2 (by rw [q]; rfl))]
    refine gX7_fit_67 (k_largerShares u0.1) (zq_i ?_)
    have hC := k_lowestTerm (d := d + 8) (w := u) (a := zs_sh a (a.1 0 0)) (b := zs_al a) (c := y) (by omega) (by omega) (by omega) hy
    exact gX7_fit_74 (by rw [nI_l (by omega), nI_l (by omega)]; exact hC) (zq_l (gX7_fit_85 ⟨rfl, hu.P⟩))
  · rw [if_pos ((nI_eq (b := 0) (by omega) (by decide)).mp g2), r14, pk_sub hbl]
    have hC := k_lowestTerm (d := d + 8) (w := u) (a := zs_al a - (zs_best a none none).1) (b := zs_al a) (c := y) (by omega) (by omega) (by omega) hy
    exact gX7_fit_74 (by rw [nI_l (by omega), nI_l (by omega)]; exact hC) (zq_l (gX7_fit_85 ⟨rfl, hu.P⟩))
