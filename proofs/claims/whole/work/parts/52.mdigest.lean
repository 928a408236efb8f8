/-! ===== offBy, fit, digest ===== -/
def zs_ro (a : zs_A) (s : Nat) : Nat → Option Nat
  | 0 => some 0
  | k + 1 => match zs_ro a s k with
    | none => none
    | some m => if k < a.1 9 s ∧ 0 ≤ a.2 s k ∧ a.2 s k < nI (a.1 0 0) then some (m ||| 2 ^ (a.2 s k).toNatClampNeg) else none
def zs_rol (a : zs_A) (s : Nat) : List Nat := (List.range (a.1 0 0)).map (fun k => (a.2 s k).toNatClampNeg)
def zs_offBy (a : zs_A) (s : Int32) : Int32 × zs_A :=
  if 0 ≤ s ∧ s < 4 then
    if a.1 8 s.toNatClampNeg = 0 then zs_met a 1
    else if zs_ro a s.toNatClampNeg (a.1 0 0) = some (2 ^ a.1 0 0 - 1) then (nI (zs_of (zs_wg a none none) (zs_rol a s.toNatClampNeg) 12), a) else (-3, a)
  else (-2, a)
theorem zs_ro_none {a : zs_A} {s : Nat} {k : Nat} (h : zs_ro a s k = none) : ∀ m, zs_ro a s (k + m) = none
  | 0 => h
  | m + 1 => by
    rw [show k + (m + 1) = (k + m) + 1 by omega, zs_ro, zs_ro_none h m]
theorem zs_ro_lt {a : zs_A} (hk : zs_ok a) {s : Nat} : ∀ {k m : Nat}, zs_ro a s k = some m → m < 2 ^ a.1 0 0 ∧ ∀ j, j < k → 0 ≤ a.2 s j ∧ a.2 s j < nI (a.1 0 0)
  | 0, m, h => by
    rw [zs_ro] at h
    cases h
    exact ⟨Nat.two_pow_pos _, fun j hj => absurd hj (Nat.not_lt_zero j)⟩
  | k + 1, m, h => by
    have hn := hk.1
    rw [zs_ro] at h
    cases e : zs_ro a s k with
    | none => rw [e] at h; cases h
    | some m' =>
      rw [e] at h
      simp only at h
      have ih := zs_ro_lt hk e
      by_cases c : k < a.1 9 s ∧ 0 ≤ a.2 s k ∧ a.2 s k < nI (a.1 0 0)
      · rw [if_pos c] at h
        cases h
        refine ⟨Nat.or_lt_two_pow ih.1 ?_, fun j hj => ?_⟩
        · obtain ⟨x, hx, ex⟩ := zx_of c.2 (by omega)
          rw [ex, zx_clamp (by omega)]
          exact Nat.pow_lt_pow_right (by decide) hx
        · rcases Nat.lt_succ_iff_lt_or_eq.mp hj with q | q
          · exact ih.2 j q
          · rw [q]; exact c.2
      · rw [if_neg c] at h; cases h
theorem l_offBy {d : Nat} {a : zs_A} {s : Nat} (hs : s < 4) (hf : a.1 8 s ≠ 0) {Q : Value → zm_S → Prop}
    (hbad : ∀ u, zd_P a u → zs_ro a s (a.1 0 0) = none → Q (.int (-3)) u) (hok : ∀ u m, zd_P a u → zs_ro a s (a.1 0 0) = some m → (∀ j, j < a.1 0 0 → u.1 15 j = a.2 s j) → zm_T zd_H (d + 2) mX8_offBy Q 102 [(0, .ref 0), (2, .int (nI m))] [] u) : ∀ (m k b : Nat) (v : zm_S), zd_P a v → k + m = a.1 0 0 → zs_ro a s k = some b → (∀ j, j < k → v.1 15 j = a.2 s j) → zm_T zd_H (d + 2) mX8_offBy Q 29 [(0, .ref 0), (1, .int (nI s)), (2, .int (nI b)), (3, .int (nI k))] [] v := by
  intro m
  induction m with
  | zero =>
    intro k b v h hk hb h15
    obtain rfl : k = a.1 0 0 := by omega
    refine gX8_offBy_29 (k_n h) (zq_i ?_)
    exact gX8_offBy_34 (fun _ => hok v b h hb h15) (fun q => absurd (Int32.le_refl _) q)
  | succ m ih =>
    intro k b v h hk hb h15
    have hn := h.1.1
    have hc : (nI s).toNatClampNeg = s := zx_clamp (by omega)
    obtain ⟨e1, e2, e3⟩ := h.2.2.2.2.1 s hs
    have hsz := (h.1.2.2.2.1 s hs).2
    have hb1 := zs_ro_lt h.1 hb
    have hp := zn_pow h.1
    have bad : ¬ (k < a.1 9 s ∧ 0 ≤ a.2 s k ∧ a.2 s k < nI (a.1 0 0)) → zs_ro a s (a.1 0 0) = none := by
      intro c
      have := zs_ro_none (a := a) (s := s) (k := k + 1) (by rw [zs_ro, hb]; exact if_neg c) m
      rw [show k + 1 + m = a.1 0 0 by omega] at this
      exact this
    refine gX8_offBy_29 (k_n h) (zq_i ?_)
    refine gX8_offBy_34 (fun q => absurd q (nI_ge (by omega) (by omega))) (fun _ => ?_)
    refine gX8_offBy_37 (vp_in_nI hs (by decide)) (fun g => gX8_offBy_65 ?_) (fun g => ?_)
    · rw [hc, e2, nI_leI (by omega) (by omega)] at g
      exact hbad v h (bad (fun c => absurd c.1 (by omega)))
    · rw [hc, e2, nI_leI (by omega) (by omega)] at g
      have ei : v.1 3 ((60 : Int32) * nI s + nI k).toNatClampNeg = a.2 s k := by
        rw [zx_idx hs (by omega), zx_clamp (by omega)]
        exact e3 hf k (by omega)
      refine gX8_offBy_47 (by rw [zx_idx hs (by omega)]; exact vp_in_nI (by omega) (by decide)) (k_isQuestion h _) (zq_i ?_)
      refine gX8_offBy_62 (fun g2 => ?_) (fun g2 => gX8_offBy_65 ?_)
      · rw [ei] at g2
        have hq := zi_n0.mp g2
        refine gX8_offBy_68 (by rw [zx_idx hs (by omega)]; exact vp_in_nI (by omega) (by decide)) (vp_in_nI (by omega) (by decide)) (vp_in_nI (by omega) (by decide)) ?_
        rw [ei, zm_pa_at, pk_us, zx_clamp (by omega), nI_1]
        obtain ⟨x, hx, ex⟩ := zx_of hq (by omega)
        have e4 : nI b ||| 1 <<< (a.2 s k &&& 31) = nI (b ||| 2 ^ (a.2 s k).toNatClampNeg) := by rw [ex, zy_bit _ (by omega), fa_or, zx_clamp (by omega)]
        rw [e4]
        refine ih (k + 1) _ _ (h.pa (by omega) _) (by omega) (by rw [zs_ro, hb]; exact if_pos ⟨by omega, hq⟩) (fun j hj => ?_)
        rw [zm_pa_at]
        by_cases z : j = k
        · rw [z, pk_us]
        · rw [pk_un z]; exact h15 j (by omega)
      · rw [ei] at g2
        exact hbad v h (bad (fun c => zi_0.mp g2 c.2))
theorem m_offBy {d : Nat} {a : zs_A} {v : zm_S} (h : zd_P a v) (s : Int32) : zm_C zd_H (d + 4) mX8_offBy [.ref 0, .int s] v (zp (.int (zs_offBy a s).1) (zd_P (zs_offBy a s).2)) := by
  refine zm_C.of mtX8_offBy.1.2.2.2.2.2.2 rfl (Nat.le_of_ble_eq_true rfl) ?_
  have hn := h.1.1
  have hp := zn_pow h.1
  refine gX8_offBy_0 (k_isSheet _) (zq_i ?_)
  refine gX8_offBy_4 (fun g => ?_) (fun g => gX8_offBy_7 (by rw [zs_offBy, if_neg (zi_0.mp g)]; exact ⟨rfl, h⟩))
  have hG := zi_n0.mp g
  obtain ⟨s, hs, rfl⟩ := zx_of (n := 4) hG (by decide)
  have hc : (nI s).toNatClampNeg = s := zx_clamp (by omega)
  obtain ⟨e1, e2, e3⟩ := h.2.2.2.2.1 s hs
  have hf := h.1.2.2.2.1 s hs
  refine gX8_offBy_10 (vp_in_nI hs (by decide)) (fun g2 => ?_) (fun g2 => ?_)
  rotate_left
  · rw [hc, e1, zx_form _ (by omega)] at g2
    refine gX8_offBy_19 (k_met _) (zq_i (gX8_offBy_24 ?_))
    rw [zs_offBy, if_pos hG, hc, if_pos (Decidable.not_not.mp g2)]
    exact h.metp rfl (by decide)
  rw [hc, e1, zx_form _ (by omega)] at g2
  rw [zs_offBy, if_pos hG, hc, if_neg g2]
  refine gX8_offBy_25 (l_offBy (d := d + 2) hs g2 (fun u hu hr => ?_) (fun u m hu hr h15 => ?_) (a.1 0 0) 0 0 v h (by omega) rfl (fun j hj => absurd hj (Nat.not_lt_zero j)))
  · rw [hr, if_neg (by simp)]
    exact ⟨rfl, hu⟩
  · have hm := zs_ro_lt h.1 hr
    rw [hr]
    refine gX8_offBy_102 (k_whole hu) (zq_i ?_)
    refine gX8_offBy_107 (fun g3 => ?_) (fun g3 => gX8_offBy_110 ?_)
    · rw [nI_eq (by omega) (by omega)] at g3
      rw [if_pos (by rw [g3])]
      refine gX8_offBy_113 (k_findSays_g hu) (zp_v (fun z hz => ?_))
      refine gX8_offBy_117 (k_findWrong hz.1 hz.2.1 (A := none) (T := none) (fun q hq => by cases hq) (fun q hq => by cases hq)) (zp_v (fun y hy => ?_))
      refine gX8_offBy_123 (k_n hy.1) (zq_i ?_)
      have hlen : (zs_rol a s).length = a.1 0 0 := by simp [zs_rol]
      have hget : ∀ j, j < a.1 0 0 → (zs_rol a s).getD j 0 = (a.2 s j).toNatClampNeg := fun j hj => by simp [zs_rol, List.getD, hj]
      have hO : zd_O (zs_rol a s) y := by
        intro j hj
        rw [hlen] at hj
        obtain ⟨x, hx, ex⟩ := zx_of (hm.2 j hj) (by omega)
        rw [hget j hj, hy.2.2.2 15 (by decide), hz.2.2 15 (by decide), h15 j hj, ex, zx_clamp (by omega)]
      have hC := k_offNow (d := d + 3) hy.1 hy.2.2.1 (l := zs_rol a s) (by omega) (fun j hj => by
        rw [hlen] at hj
        obtain ⟨x, hx, ex⟩ := zx_of (hm.2 j hj) (by omega)
        rw [hget j hj, ex, zx_clamp (by omega)]
        exact hx) hO
      rw [hlen] at hC
      exact gX8_offBy_128 hC (zq_i (gX8_offBy_131 ⟨rfl, hy.1⟩))
    · rw [nI_eq (by omega) (by omega)] at g3
      rw [if_neg (fun q => g3 (Option.some.inj q))]
      exact ⟨rfl, hu⟩
/-- how well the rows fit -/
def zs_al (a : zs_A) : Nat := zs_all a 0 12 + zs_all a 1 12
def zs_fitN (a : zs_A) (w x : Nat) : Int64 := if zs_al a = 0 then zs_no (-3) else lN (zs_fr (if w = 0 then zs_al a - (zs_best a none none).1 else zs_sh a (a.1 0 0)) (zs_al a) x)
theorem zs_om_0 (W : Nat → Nat → Nat) (l : List Nat) (p : Nat) : ∀ k, (zs_om W l p k).2 ≤ W p 0
  | 0 => Nat.le_refl _
  | k + 1 => by
    have := zs_om_0 W l p k
    rw [zs_om]
    simp only
    omega
theorem zs_and127 : ∀ x, x < 128 → x &&& (127 ^^^ 0) = x := by decide +kernel
theorem zs_best_all {a : zs_A} (h : zs_ok a) : (zs_best a none none).1 ≤ zs_al a := by
  rw [(zs_best_in h (A := none) (T := none) (fun q hq => by cases hq)).2]
  refine Nat.le_trans (fb_sm_le (g := fun p => zpc (zs_Y a p)) (fun p _ => Nat.le_trans (zs_om_0 _ _ _ _) ?_)) (Nat.le_add_left _ _)
  show zpc (zs_Y a p &&& (127 ^^^ 0)) + zpc (zs_N a p &&& 0) ≤ _
  rw [zs_and127 _ (zs_Y_lt a h p), Nat.and_zero]
  exact Nat.le_refl _
theorem zs_all_le (a : zs_A) (x : Nat) : zs_all a x 12 ≤ 168 := fb_sm_bound (fun p _ => zpc_le _)
theorem zs_sh_le (a : zs_A) (h : zs_ok a) : zs_sh a (a.1 0 0) ≤ 84 := by
  have := fb_sm_bound (f := fun q => max (zs_c a 1 q 12) (zs_c a 0 q 12)) (c := 12) (n := a.1 0 0) (fun q _ => by
    have h1 := zs_c_le a 1 q 12
    have h2 := zs_c_le a 0 q 12
    omega)
  have := h.1
  unfold zs_sh
  omega
theorem k_fitOf {d : Nat} {a : zs_A} {v : zm_S} (h : zd_P a v) {w x : Nat} (hw : w < 2) (hx : x < 2) : zm_C zd_H (d + 5) mX8_fitOf [.ref 0, .int (nI w), .int (nI x)] v (zp (.long (zs_fitN a w x)) (zd_P a)) := by
  refine zm_C.of mtX8_fitOf.1.2.2.2.2.2.2 rfl (Nat.le_of_ble_eq_true rfl) ?_
  have ha0 := zs_all_le a 0
  have ha1 := zs_all_le a 1
  have hsh := zs_sh_le a h.1
  have hbl := zs_best_all h.1
  refine gX8_fitOf_0 (k_findBest h) (zp_v (fun u hu => ?_))
  refine gX8_fitOf_4 (k_allAnswers hu.1 hu.2.1 (x := 0) (by decide)) (zq_i ?_)
  refine gX8_fitOf_9 (k_allAnswers hu.1 hu.2.1 (x := 1) (by decide)) (zq_i ?_)
  have e : nI (zs_all a 0 12) + nI (zs_all a 1 12) = nI (zs_al a) := nI_add _ _
  have hal : zs_al a ≤ 336 := by unfold zs_al; omega
  refine gX8_fitOf_14 (fun g => ?_) (fun g => gX8_fitOf_20 (k_no _) (zq_l (gX8_fitOf_25 (gX8_fitOf_53 ?_))))
  · rw [e] at g ⊢
    have g0 : ¬ zs_al a = 0 := fun q => g (by rw [q]; rfl)
    rw [zs_fitN, if_neg g0]
    refine gX8_fitOf_28 (fun g2 => ?_) (fun g2 => gX8_fitOf_32 ?_)
    · rw [if_neg (fun q => g2 (by rw [q]; rfl))]
      refine gX8_fitOf_42 (k_shares hu.1 hu.2.1) (zq_i (gX8_fitOf_46 ?_))
      rw [nI_l (by omega)]
      have hC := k_part (d := d + 4) (w := u) (a := zs_sh a (a.1 0 0)) (b := zs_al a) (c := x) (by omega) (by omega) (by omega) hx
      refine gX8_fitOf_47 (by rw [nI_l (by omega)]; exact hC) (zq_l (gX8_fitOf_53 ⟨rfl, hu.1⟩))
    · rw [if_pos ((nI_eq (b := 0) (by omega) (by decide)).mp g2), hu.2.2.1.1, pk_sub hbl, nI_l (by omega)]
      have hC := k_part (d := d + 4) (w := u) (a := zs_al a - (zs_best a none none).1) (b := zs_al a) (c := x) (by omega) (by omega) (by omega) hx
      refine gX8_fitOf_47 (by rw [nI_l (by omega)]; exact hC) (zq_l (gX8_fitOf_53 ⟨rfl, hu.1⟩))
  · rw [e] at g
    rw [zs_fitN, if_pos ((nI_eq (b := 0) (by omega) (by decide)).mp g)]
    exact ⟨rfl, hu.1⟩
def zs_fit (a : zs_A) (w x : Int32) : Int64 := if (0 ≤ w ∧ w < 2) ∧ 0 ≤ x ∧ x < 2 then zs_fitN a w.toNatClampNeg x.toNatClampNeg else zs_no (-2)
theorem m_fit {d : Nat} {a : zs_A} {v : zm_S} (h : zd_P a v) (w x : Int32) : zm_C zd_H (d + 6) mX8_fit [.ref 0, .int w, .int x] v (zp (.long (zs_fit a w x)) (zd_P a)) := by
  refine zm_C.of mtX8_fit.1.2.2.2.2.2.2 rfl (Nat.le_of_ble_eq_true rfl) ?_
  have bad : ∀ (hb : ¬ ((0 ≤ w ∧ w < 2) ∧ 0 ≤ x ∧ x < 2)), zm_T zd_H (d + 6) mX8_fit (zp (.long (zs_fit a w x)) (zd_P a)) 23 [] [] v := fun hb => gX8_fit_23 (k_no _) (zq_l (gX8_fit_28 (by rw [zs_fit, if_neg hb]; exact ⟨rfl, h⟩)))
  refine gX8_fit_0 (k_isTwo2 w) (zq_i ?_)
  refine gX8_fit_4 (fun g => bad (fun c => zi_0.mp g c.1)) (fun g1 => ?_)
  refine gX8_fit_7 (k_isTwo2 x) (zq_i ?_)
  refine gX8_fit_11 (fun g => bad (fun c => zi_0.mp g c.2)) (fun g2 => ?_)
  have hG : (0 ≤ w ∧ w < 2) ∧ 0 ≤ x ∧ x < 2 := ⟨zi_n0.mp g1, zi_n0.mp g2⟩
  obtain ⟨w, hw, rfl⟩ := zx_of (n := 2) hG.1 (by decide)
  obtain ⟨x, hx, rfl⟩ := zx_of (n := 2) hG.2 (by decide)
  refine gX8_fit_14 (k_fitOf h hw hx) (zp_l (fun u hu => gX8_fit_20 (gX8_fit_28 ?_)))
  rw [zs_fit, if_pos hG, zx_clamp (by omega), zx_clamp (by omega)]
  exact ⟨rfl, hu⟩
