/-! ===== offBy ===== -/
theorem l_isRow {d : Nat} {a : zs_A} {w : zm_S} (h : zc_P a w) {s : Nat} (hs : s < 4) (h8 : a.1 8 s ≠ 0) (hsz : a.1 0 0 ≤ a.1 9 s) : ∀ (m k b : Nat), k + m = a.1 0 0 → zs_ro a s k = some b → zm_T zc_H (d + 2) mX7_isRow (zq (.int (zi (zs_ro a s (a.1 0 0) = some (2 ^ a.1 0 0 - 1)))) w) 20 [(0, .ref 0), (1, .ref (40 + 2 * s)), (2, .int (nI b)), (3, .int (nI k))] [] w := by
  have ha := h.1.1.1
  have hn := ha.1.2.1
  have hS := zc_shs hs
  have e9 := h.1.1.2.1
  have e10 := h.1.1.2.2.1
  have hp := zn_pow ha
  have h60 := (ha.2.2.2.1 s hs).2
  intro m
  induction m with
  | zero =>
    intro k b hk hb
    obtain rfl : k = a.1 0 0 := by omega
    have hlt := (zs_ro_lt ha hb).1
    refine gX7_isRow_20 hS (fun _ => ?_) (fun q => absurd (by rw [e9]; exact Int32.le_refl _) q)
    refine gX7_isRow_63 (fun g => gX7_isRow_78 ?_) (fun g => gX7_isRow_74 ?_)
    · rw [e10] at g
      rw [zi_f (fun q => g (by rw [hb] at q; rw [Option.some.inj q]))]
      exact zq_m _ _
    · rw [e10, nI_eq (by omega) (by omega)] at g
      rw [zi_t (by rw [hb, g])]
      exact zq_m _ _
  | succ m ih =>
    intro k b hk hb
    have hlt := (zs_ro_lt ha hb).1
    have hit := ((h.1.2.2.2.2.2.2 s hs).2.2 h8).2 k (by omega)
    refine gX7_isRow_20 hS (fun q => absurd q (by rw [e9]; exact nI_ge (by omega) (by omega))) (fun _ => ?_)
    refine gX7_isRow_31 hS (vp_in_nI (by omega) (by decide)) (k_isQuestionC h.1.1 _) (zq_i ?_)
    rw [zx_clamp (by omega), zc_41, hit]
    have nx : zs_ro a s (k + 1) = if k < a.1 9 s ∧ 0 ≤ a.2 s k ∧ a.2 s k < nI (a.1 0 0) then some (b ||| 2 ^ (a.2 s k).toNatClampNeg) else none := by rw [zs_ro, hb]
    refine gX7_isRow_41 hS (fun g => gX7_isRow_46 hS (vp_in_nI (by omega) (by decide)) ?_) (fun g => gX7_isRow_44 ?_)
    · have gq := zi_n0.mp g
      rw [if_pos ⟨by omega, gq⟩] at nx
      obtain ⟨x, hx, ex⟩ := zx_of gq (by omega)
      rw [zx_clamp (by omega), zc_41, hit, ex, zy_bit x (by omega), fa_or, nI_1]
      rw [ex, zx_clamp (by omega)] at nx
      exact ih (k + 1) _ (by omega) nx
    · have gq := zi_0.mp g
      rw [if_neg (fun q => gq q.2)] at nx
      have := zs_ro_none nx (a.1 0 0 - (k + 1))
      rw [show k + 1 + (a.1 0 0 - (k + 1)) = a.1 0 0 by omega] at this
      rw [zi_f (by rw [this]; exact fun q => by cases q)]
      exact zq_m _ _
theorem k_isRow {d : Nat} {a : zs_A} {w : zm_S} (h : zc_P a w) {s : Nat} (hs : s < 4) (h8 : a.1 8 s ≠ 0) : zm_C zc_H (d + 2) mX7_isRow [.ref 0, .ref (40 + 2 * s)] w (zq (.int (zi (zs_ro a s (a.1 0 0) = some (2 ^ a.1 0 0 - 1)))) w) := by
  have ha := h.1.1.1
  have hn := ha.1.2.1
  have hS := zc_shs hs
  have e9 := h.1.1.2.1
  have h60 := (ha.2.2.2.1 s hs).2
  refine zm_C.of mtX7_isRow.1.2.2.2.2.2.2 rfl (Nat.le_of_ble_eq_true rfl) ?_
  refine gX7_isRow_0 hS (fun g => gX7_isRow_16 hS ?_) (fun g => gX7_isRow_14 ?_)
  · rw [e9, (h.1.2.2.2.2.2.2 s hs).2.1, nI_leI (by omega) (by omega)] at g
    exact l_isRow h hs h8 g (a.1 0 0) 0 0 (by omega) rfl
  · rw [e9, (h.1.2.2.2.2.2.2 s hs).2.1, nI_leI (by omega) (by omega)] at g
    have nx : zs_ro a s (a.1 9 s + 1) = none := by
      cases e : zs_ro a s (a.1 9 s) with
      | none => rw [zs_ro, e]
      | some b => rw [zs_ro, e]; exact if_neg (fun q => by omega)
    have := zs_ro_none nx (a.1 0 0 - (a.1 9 s + 1))
    rw [show a.1 9 s + 1 + (a.1 0 0 - (a.1 9 s + 1)) = a.1 0 0 by omega] at this
    rw [zi_f (by rw [this]; exact fun q => by cases q)]
    exact zq_m _ _
theorem zs_rol_at (a : zs_A) (s : Nat) {j : Nat} (hj : j < a.1 0 0) : (zs_rol a s).getD j 0 = (a.2 s j).toNatClampNeg := by
  unfold zs_rol
  simp [List.getD, hj]
theorem zs_rol_len (a : zs_A) (s : Nat) : (zs_rol a s).length = a.1 0 0 := by simp [zs_rol]
theorem l_offByC {d : Nat} {a : zs_A} {w : zm_S} (h : zc_P a w) {s b : Nat} (hs : s < 4) (h8 : a.1 8 s ≠ 0) (hsz : a.1 0 0 ≤ a.1 9 s) (hb : zs_ro a s (a.1 0 0) = some b) : ∀ (m p : Nat), p + m = 12 → zm_T zc_H (d + 4) mX7_offBy (zq (.int (nI (zs_of (zs_wg a none none) (zs_rol a s) 12))) w) 47 [(0, .ref 0), (2, .ref (40 + 2 * s)), (3, .int (nI (zs_of (zs_wg a none none) (zs_rol a s) p))), (4, .int (nI p))] [] w := by
  have ha := h.1.1.1
  have hn := ha.1.2.1
  have hS := zc_shs hs
  have hro := (zs_ro_lt ha hb).2
  intro m
  induction m with
  | zero =>
    intro p hp
    obtain rfl : p = 12 := by omega
    exact gX7_offBy_47 hS (fun _ => gX7_offBy_76 (zq_m _ _)) (fun q => absurd (by decide) q)
  | succ m ih =>
    intro p hp
    refine gX7_offBy_47 hS (fun q => absurd q (nI_ge (b := 12) (by omega) (by decide))) (fun _ => ?_)
    have hC := k_offIn (d := d) h.1.1 (p := p) (by omega) (o := 40 + 2 * s + 1) (n := 60) hS.2 (by decide) (by decide) (l := zs_rol a s) (fun j hj => by
      rw [zs_rol_at a s hj]
      obtain ⟨x, hx, ex⟩ := zx_of (hro j hj) (by omega)
      rw [ex, zx_clamp (by omega)]
      exact hx) (fun j hj => by
      rw [zs_rol_at a s hj, zc_41, ((h.1.2.2.2.2.2.2 s hs).2.2 h8).2 j (by omega)]
      obtain ⟨x, hx, ex⟩ := zx_of (hro j hj) (by omega)
      rw [ex, zx_clamp (by omega)])
    rw [(zs_sp_om a (zs_rol a s) p (a.1 0 0)).2] at hC
    refine gX7_offBy_54 hS hC (zq_i (gX7_offBy_68 hS ?_))
    rw [nI_1, nI_add]
    have := ih (p + 1) (by omega)
    rw [show zs_of (zs_wg a none none) (zs_rol a s) (p + 1) = zs_of (zs_wg a none none) (zs_rol a s) p + (zs_om (zs_wg a none none) (zs_rol a s) p (zs_rol a s).length).2 from fb_sm_succ _ _, zs_rol_len] at this
    exact this
theorem zs_ro_size {a : zs_A} {s : Nat} : ∀ {k b : Nat}, zs_ro a s k = some b → k ≤ a.1 9 s
  | 0, b, _ => Nat.zero_le _
  | k + 1, b, h => by
    rw [zs_ro] at h
    cases e : zs_ro a s k with
    | none => rw [e] at h; cases h
    | some m =>
      rw [e] at h
      simp only at h
      by_cases c : k < a.1 9 s ∧ 0 ≤ a.2 s k ∧ a.2 s k < nI (a.1 0 0)
      · omega
      · rw [if_neg c] at h; cases h
theorem c_offBy {d : Nat} {a : zs_A} {w : zm_S} (h : zc_P a w) (s : Int32) : zm_C zc_H (d + 4) mX7_offBy [.ref 0, .int s] w (zp (.int (zs_offBy a s).1) (zc_P (zs_offBy a s).2)) := by
  have ha := h.1.1.1
  refine zm_C.of mtX7_offBy.1.2.2.2.2.2.2 rfl (Nat.le_of_ble_eq_true rfl) ?_
  refine gX7_offBy_0 (k_within _ _) (zq_i ?_)
  refine gX7_offBy_5 (fun g => ?_) (fun g => gX7_offBy_8 (by rw [zs_offBy, if_neg (zi_0.mp g)]; exact ⟨rfl, h⟩))
  have hG := zi_n0.mp g
  rw [zs_offBy, if_pos hG]
  obtain ⟨s, hs, rfl⟩ := zx_of (n := 4) hG (by decide)
  obtain ⟨s1, s3, s4⟩ := h.1.2.2.2.2.2.2 s hs
  rw [zx_clamp (by omega)]
  have hS := zc_shs hs
  refine gX7_offBy_11 (vp_in_nI hs (by decide)) (zc_at hs) (fun g2 => ?_) (fun g2 => gX7_offBy_25 (k_tellFinding _) (zq_i (gX7_offBy_30 ?_)))
  rotate_left
  · rw [s1] at g2
    rw [if_pos (zi_n0.mp g2)]
    exact h.metp rfl (by decide)
  rw [s1] at g2
  have h8 := zi_0.mp g2
  rw [if_neg h8]
  refine gX7_offBy_31 hS (k_isRow h hs h8) (zq_i ?_)
  refine gX7_offBy_36 hS (fun g3 => gX7_offBy_42 hS ?_) (fun g3 => gX7_offBy_39 ?_)
  · have hb := zi_n0.mp g3
    rw [if_pos hb]
    exact zm_T.post (fun r z hz => ⟨hz.1, by rw [hz.2]; exact h⟩) (l_offByC h hs h8 (zs_ro_size hb) hb 12 0 (by omega))
  · rw [if_neg (zi_0.mp g3)]
    exact ⟨rfl, h⟩
