/-! ===== sheets ===== -/
theorem zx_f1 {f : Nat} (h : f ≠ 0) : nI (f - 1) = nI f - 1 := by
  obtain ⟨k, rfl⟩ := Nat.exists_eq_succ_of_ne_zero h
  exact (nI_pred k).symm
theorem k_findingAt {d : Nat} {a : zs_A} {w : zm_S} (h : zc_4 a w) {s : Nat} (hs : s < 4) (f i : Int32) : zm_C zc_H (d + 1) mX5_findingAt [.ref (40 + 2 * s), .int f, .int i] w (zq (.int (nI (zs_lack a (nI s) f i))) w) := by
  have hS := zc_shs hs
  obtain ⟨s1, s3, s4⟩ := h s hs
  have hc : (nI s).toNatClampNeg = s := zx_clamp (by omega)
  refine zm_C.of mtX5_findingAt.1.2.2.2.2.2.2 rfl (Nat.le_of_ble_eq_true rfl) ?_
  refine gX5_findingAt_0 hS (fun g => ?_) (fun g => gX5_findingAt_7 ?_)
  rotate_left
  · rw [s1] at g
    rw [zs_lack, hc, if_pos (zi_n0.mp g)]
    exact zq_m _ _
  rw [s1] at g
  have h8 := zi_0.mp g
  obtain ⟨s2, -⟩ := s4 h8
  rw [zs_lack, hc, if_neg h8]
  refine gX5_findingAt_9 hS (fun g2 => ?_) (fun g2 => gX5_findingAt_17 ?_)
  rotate_left
  · rw [s2, zx_f1 h8] at g2
    rw [if_pos (fun q => g2 q.symm)]
    exact zq_m _ _
  rw [s2, zx_f1 h8] at g2
  rw [if_neg (fun q => q g2.symm)]
  refine gX5_findingAt_19 hS (k_within _ _) (zq_i ?_)
  rw [s3]
  refine gX5_findingAt_27 (fun g3 => gX5_findingAt_34 ?_) (fun g3 => gX5_findingAt_30 ?_)
  · rw [if_neg (zi_0.mp g3)]
    exact zq_m _ _
  · rw [if_pos (zi_n0.mp g3)]
    exact zq_m _ _
theorem k_putC {d : Nat} {a : zs_A} {w : zm_S} (ha : zs_ok a) (h : zc_4 a w) {s b : Nat} (hs : s < 4) (h8 : a.1 8 s ≠ 0) (hb : b < a.1 9 s) (v : Int32) : zm_C zc_H (d + 1) mX5_put [.ref (40 + 2 * s), .int (nI b), .int v] w (zq .null (zm_pi w (41 + 2 * s) b (zs_cut (nI (a.1 8 s) - 1) v))) := by
  have hS := zc_shs hs
  obtain ⟨s1, s3, s4⟩ := h s hs
  obtain ⟨s2, -⟩ := s4 h8
  have hsz := (ha.2.2.2.1 s hs).2
  refine zm_C.of mtX5_put.1.2.2.2.2.2.2 rfl (Nat.le_of_ble_eq_true rfl) ?_
  refine gX5_put_0 hS (k_within _ _) (zq_i ?_)
  rw [s3]
  refine gX5_put_8 hS (fun g => absurd ⟨nI_pos' (by omega), nI_lt hb (by omega)⟩ (zi_0.mp g)) (fun _ => ?_)
  have i60 : vp_in (nI b) 60 := vp_in_nI (by omega) (by decide)
  refine gX5_put_11 hS (fun g => ?_) (fun g => gX5_put_23 hS.2 i60 (gX5_put_43 ?_))
  · refine gX5_put_28 hS hS.2 (fun g2 => gX5_put_41 hS.2 i60 (gX5_put_43 ?_)) (fun g2 => gX5_put_36 hS.2 i60 (gX5_put_43 ?_))
    · rw [s2, zx_f1 h8] at g g2
      rw [zs_cut, if_neg g, if_neg g2, zx_clamp (by omega), zc_41]
      exact zq_m _ _
    · rw [s2, zx_f1 h8] at g g2
      rw [zs_cut, if_neg g, if_pos g2, zx_clamp (by omega), zc_41]
      exact zq_m _ _
  · rw [s2, zx_f1 h8] at g
    rw [zs_cut, if_pos g, zx_clamp (by omega), zc_41]
    exact zq_m _ _
theorem zc_4.put {a : zs_A} {w : zm_S} (h : zc_4 a w) {s b : Nat} (hs : s < 4) (x : Int32) : zc_4 (a.1, zs_put a.2 s b x) (zm_pi w (41 + 2 * s) b x) := by
  intro s' hs'
  obtain ⟨q1, q3, q4⟩ := h s' hs'
  rw [zm_pa_ne (by omega)]
  refine ⟨q1, q3, fun h8 => ⟨(q4 h8).1, fun i hi => ?_⟩⟩
  have := (q4 h8).2 i hi
  show _ = zs_put a.2 s b x s' i
  unfold zs_put
  by_cases e : s' = s
  · subst e
    rw [zm_pa_at]
    by_cases e2 : i = b
    · rw [e2, pk_us, if_pos ⟨rfl, rfl⟩]
    · rw [pk_un e2, if_neg (fun q => e2 q.2)]
      exact this
  · rw [zm_pa_ne (by omega), if_neg (fun q => e q.1)]
    exact this
theorem zc_P.items {a : zs_A} {w u : zm_S} (h : zc_P a w) {g : Nat → Nat → Int32} (ek : ∀ k, k < 40 → u.1 k = w.1 k) (e2 : u.2 = w.2) (h4 : zc_4 (a.1, g) u) : zc_P (a.1, g) u :=
  zc_P.sheets (a := a) (b := (a.1, g)) (fun c hc => rfl) h.1.1.1 h (fun k _ hk => ek k hk) e2 (by rw [ek 0 (by decide)]; exact h.1.2.2.2.2.1) h4
theorem zc_Q.put {a : zs_A} {w : zm_S} (h : zc_Q a w) {s b : Nat} (hs : s < 4) (x : Int32) : zc_Q (a.1, zs_put a.2 s b x) (zm_pi w (41 + 2 * s) b x) := by
  have h1 := h.P.items (u := zm_pi w (41 + 2 * s) b x) (fun k hk => zm_pa_ne (by omega)) rfl (h.1.2.2.2.2.2.2.put hs (b := b) x)
  refine ⟨h1.1, h1.2.1, by rw [zm_pa_ne (by omega)]; exact h.2.2.1, ?_⟩
  exact zc_b.keep (w := w) (zc_b.cong (a := a) (b := (a.1, zs_put a.2 s b x)) (zg_S rfl) (zg_reads rfl) rfl h.2.2.2) (fun k x y => zm_pa_ne (by omega))
theorem c_lay {d : Nat} {a : zs_A} {w : zm_S} (h : zc_P a w) (s f i v : Int32) : zm_C zc_H (d + 3) mX7_lay [.ref 0, .int s, .int f, .int i, .int v] w (zp (.int (zs_lay a s f i v).1) (zc_P (zs_lay a s f i v).2)) := by
  have ha := h.1.1.1
  have h4 := h.1.2.2.2.2.2.2
  refine zm_C.of mtX7_lay.1.2.2.2.2.2.2 rfl (Nat.le_of_ble_eq_true rfl) ?_
  have bad : ¬ ((0 ≤ s ∧ s < 4) ∧ 0 ≤ f ∧ f < 3) → zm_T zc_H (d + 3) mX7_lay (zp (.int (zs_lay a s f i v).1) (zc_P (zs_lay a s f i v).2)) 16 [] [] w := fun hb => gX7_lay_16 (by rw [zs_lay, if_neg hb]; exact ⟨rfl, h⟩)
  refine gX7_lay_0 (k_within _ _) (zq_i ?_)
  refine gX7_lay_5 (fun g => bad (fun c => zi_0.mp g c.1)) (fun g1 => ?_)
  refine gX7_lay_8 (k_within _ _) (zq_i ?_)
  refine gX7_lay_13 (fun g2 => ?_) (fun g => bad (fun c => zi_0.mp g c.2))
  have hG : (0 ≤ s ∧ s < 4) ∧ 0 ≤ f ∧ f < 3 := ⟨zi_n0.mp g1, zi_n0.mp g2⟩
  rw [zs_lay, if_pos hG]
  obtain ⟨s, hs, rfl⟩ := zx_of (n := 4) hG.1 (by decide)
  have hc : (nI s).toNatClampNeg = s := zx_clamp (by omega)
  have hL := zs_lack_le a (nI s) f i
  refine gX7_lay_19 (vp_in_nI hs (by decide)) (zc_at hs) (k_findingAt h4 hs f i) (zq_i ?_)
  refine gX7_lay_30 (fun g => ?_) (fun g => gX7_lay_37 (k_tellFinding _) (zq_i (gX7_lay_43 ?_)))
  · have g0 : zs_lack a (nI s) f i = 0 := (nI_eq (b := 0) (by omega) (by decide)).mp g
    obtain ⟨q1, q2, b, hb, rfl⟩ := zs_lack_0 hs g0 ha
    have hsz := (ha.2.2.2.1 s hs).2
    rw [if_pos g0, hc, zx_clamp (by omega)]
    refine gX7_lay_44 (vp_in_nI hs (by decide)) (zc_at hs) (k_putC ha h4 hs q1 hb v) (zq_v (gX7_lay_56 ?_))
    rw [q2]
    exact ⟨rfl, h.items (fun k hk => zm_pa_ne (by omega)) rfl (h4.put hs _)⟩
  · have g0 : zs_lack a (nI s) f i ≠ 0 := fun q => g (by rw [q]; rfl)
    rw [if_neg g0]
    exact h.metp rfl (by omega)
theorem c_get {d : Nat} {a : zs_A} {w : zm_S} (h : zc_P a w) (s f i : Int32) : zm_C zc_H (d + 3) mX7_get [.ref 0, .int s, .int f, .int i] w (zp (.int (zs_get a s f i).1) (zc_P (zs_get a s f i).2)) := by
  have ha := h.1.1.1
  have h4 := h.1.2.2.2.2.2.2
  refine zm_C.of mtX7_get.1.2.2.2.2.2.2 rfl (Nat.le_of_ble_eq_true rfl) ?_
  have bad : ¬ ((0 ≤ s ∧ s < 4) ∧ 0 ≤ f ∧ f < 3) → zm_T zc_H (d + 3) mX7_get (zp (.int (zs_get a s f i).1) (zc_P (zs_get a s f i).2)) 16 [] [] w := fun hb => gX7_get_16 (by rw [zs_get, if_neg hb]; exact ⟨rfl, h⟩)
  refine gX7_get_0 (k_within _ _) (zq_i ?_)
  refine gX7_get_5 (fun g => bad (fun c => zi_0.mp g c.1)) (fun g1 => ?_)
  refine gX7_get_8 (k_within _ _) (zq_i ?_)
  refine gX7_get_13 (fun g2 => ?_) (fun g => bad (fun c => zi_0.mp g c.2))
  have hG : (0 ≤ s ∧ s < 4) ∧ 0 ≤ f ∧ f < 3 := ⟨zi_n0.mp g1, zi_n0.mp g2⟩
  rw [zs_get, if_pos hG]
  obtain ⟨s, hs, rfl⟩ := zx_of (n := 4) hG.1 (by decide)
  have hc : (nI s).toNatClampNeg = s := zx_clamp (by omega)
  have hL := zs_lack_le a (nI s) f i
  refine gX7_get_20 (vp_in_nI hs (by decide)) (zc_at hs) (k_findingAt h4 hs f i) (zq_i ?_)
  refine gX7_get_31 (fun g => ?_) (fun g => gX7_get_38 ?_)
  · have g0 : zs_lack a (nI s) f i = 0 := (nI_eq (b := 0) (by omega) (by decide)).mp g
    obtain ⟨q1, q2, b, hb, rfl⟩ := zs_lack_0 hs g0 ha
    have hsz := (ha.2.2.2.1 s hs).2
    rw [if_pos g0, hc, zx_clamp (by omega)]
    refine gX7_get_48 (vp_in_nI hs (by decide)) (zc_at hs) (vp_in_nI (by omega) (by decide)) ?_
    rw [zx_clamp (by omega), zc_41, ((h4 s hs).2.2 q1).2 b hb]
    exact ⟨rfl, h⟩
  · have g0 : zs_lack a (nI s) f i ≠ 0 := fun q => g (by rw [q]; rfl)
    rw [if_neg g0]
    exact ⟨rfl, h.late (by omega)⟩
theorem zs_lose_ok {a : zs_A} (h : zs_ok a) (s : Nat) : zs_ok (zs_u a.1 8 s 0, a.2) := by
  refine ⟨h.1, h.2.1, h.2.2.1, fun s' hs' => ?_, h.2.2.2.2⟩
  show zs_u a.1 8 s 0 8 s' ≤ 3 ∧ zs_u a.1 8 s 0 9 s' ≤ 60
  rw [zs_u_c (c' := 9) (by decide)]
  by_cases e : s' = s
  · rw [e, zs_u_same]; exact ⟨by omega, (h.2.2.2.1 s (by omega)).2⟩
  · rw [zs_u_i e]; exact h.2.2.2.1 s' hs'
theorem c_lose {d : Nat} {a : zs_A} {w : zm_S} (h : zc_P a w) (s : Int32) : zm_C zc_H (d + 3) mX7_lose [.ref 0, .int s] w (zp (.int (zs_lose a s).1) (zc_P (zs_lose a s).2)) := by
  have ha := h.1.1.1
  have h4 := h.1.2.2.2.2.2.2
  refine zm_C.of mtX7_lose.1.2.2.2.2.2.2 rfl (Nat.le_of_ble_eq_true rfl) ?_
  refine gX7_lose_0 (k_within _ _) (zq_i ?_)
  refine gX7_lose_5 (fun g => ?_) (fun g => gX7_lose_8 (by rw [zs_lose, if_neg (zi_0.mp g)]; exact ⟨rfl, h⟩))
  have hG := zi_n0.mp g
  rw [zs_lose, if_pos hG]
  obtain ⟨s, hs, rfl⟩ := zx_of (n := 4) hG (by decide)
  obtain ⟨s1, s3, s4⟩ := h4 s hs
  rw [zx_clamp (by omega)]
  refine gX7_lose_11 (vp_in_nI hs (by decide)) (zc_at hs) (fun g2 => ?_) (fun g2 => gX7_lose_23 (k_tellFinding _) (zq_i (gX7_lose_28 ?_)))
  rotate_left
  · rw [s1] at g2
    rw [if_pos (zi_n0.mp g2)]
    exact h.metp rfl (by decide)
  rw [s1] at g2
  rw [if_neg (zi_0.mp g2)]
  refine gX7_lose_29 (vp_in_nI hs (by decide)) (zc_at hs) (vp_in_nI hs (by decide)) (zc_at hs) ?_
  refine ⟨by rw [zm_pa_at, pk_un (by decide), s3], h.sheets (b := (zs_u a.1 8 s 0, a.2)) (fun c hc => funext fun i => (zs_u_c (by omega)).symm) (zs_lose_ok ha s) (fun k _ hk => zm_pa_ne (by omega)) rfl (by rw [zm_pa_ne (by omega)]; exact h.1.2.2.2.2.1) (fun s' hs' => ?_)⟩
  obtain ⟨q1, q3, q4⟩ := h4 s' hs'
  show _ = zi (zs_u a.1 8 s 0 8 s' = 0) ∧ _ = nI (zs_u a.1 8 s 0 9 s') ∧ (zs_u a.1 8 s 0 8 s' ≠ 0 → _ = nI (zs_u a.1 8 s 0 8 s' - 1) ∧ ∀ i, i < zs_u a.1 8 s 0 9 s' → _ = a.2 s' i)
  rw [zs_u_c (c' := 9) (by decide)]
  by_cases e : s' = s
  · subst e
    rw [zs_u_same, zm_pa_at, pk_us, pk_un (by decide)]
    exact ⟨rfl, s3, fun q => absurd rfl q⟩
  · rw [zs_u_i e, zm_pa_ne (k' := 40 + 2 * s') (by omega)]
    refine ⟨q1, q3, fun h8 => ⟨(q4 h8).1, fun i hi => ?_⟩⟩
    rw [zm_pa_ne (by omega)]
    exact (q4 h8).2 i hi
theorem zs_sheet_ok {a : zs_A} (h : zs_ok a) (s : Nat) {f n : Nat} (hf : f < 3) (hn : n ≤ 60) (g : Nat → Nat → Int32) : zs_ok (zs_u (zs_u a.1 8 s (f + 1)) 9 s n, g) := by
  refine ⟨h.1, h.2.1, h.2.2.1, fun s' hs' => ?_, h.2.2.2.2⟩
  show zs_u (zs_u a.1 8 s (f + 1)) 9 s n 8 s' ≤ 3 ∧ zs_u (zs_u a.1 8 s (f + 1)) 9 s n 9 s' ≤ 60
  rw [zs_u_c (c' := 8) (by decide)]
  by_cases e : s' = s
  · rw [e, zs_u_same, zs_u_same]; omega
  · rw [zs_u_i e, zs_u_i e, zs_u_i e]; exact h.2.2.2.1 s' hs'
theorem c_sheet {d : Nat} {a : zs_A} {w : zm_S} (h : zc_P a w) (s f n : Int32) : zm_C zc_H (d + 3) mX7_sheet [.ref 0, .int s, .int f, .int n] w (zp (.int (zs_sheet a s f n).1) (zc_P (zs_sheet a s f n).2)) := by
  have ha := h.1.1.1
  have h4 := h.1.2.2.2.2.2.2
  refine zm_C.of mtX7_sheet.1.2.2.2.2.2.2 rfl (Nat.le_of_ble_eq_true rfl) ?_
  have bad : ¬ ((0 ≤ s ∧ s < 4) ∧ (0 ≤ f ∧ f < 3) ∧ n ≤ 60) → zm_T zc_H (d + 3) mX7_sheet (zp (.int (zs_sheet a s f n).1) (zc_P (zs_sheet a s f n).2)) 22 [] [] w := fun hb => gX7_sheet_22 (by rw [zs_sheet, if_neg hb]; exact ⟨rfl, h⟩)
  refine gX7_sheet_0 (k_within _ _) (zq_i ?_)
  refine gX7_sheet_5 (fun g => bad (fun c => zi_0.mp g c.1)) (fun g1 => ?_)
  refine gX7_sheet_8 (k_within _ _) (zq_i ?_)
  refine gX7_sheet_13 (fun g => bad (fun c => zi_0.mp g c.2.1)) (fun g2 => ?_)
  refine gX7_sheet_16 (fun g3 => ?_) (fun g => bad (fun c => g c.2.2))
  have hG : (0 ≤ s ∧ s < 4) ∧ (0 ≤ f ∧ f < 3) ∧ n ≤ 60 := ⟨zi_n0.mp g1, zi_n0.mp g2, g3⟩
  rw [zs_sheet, if_pos hG]
  refine gX7_sheet_25 (fun g => ?_) (fun g => gX7_sheet_29 (k_tellFinding _) (zq_i (gX7_sheet_34 (by rw [if_pos (Int32.not_le.mp g)]; exact h.metp rfl (by decide)))))
  rw [if_neg (Int32.not_lt.mpr g)]
  obtain ⟨s, hs, rfl⟩ := zx_of (n := 4) hG.1 (by decide)
  obtain ⟨f, hf, rfl⟩ := zx_of (n := 3) hG.2.1 (by decide)
  obtain ⟨n, hn, rfl⟩ := zx_ofle (n := 60) ⟨g, g3⟩ (by decide)
  rw [zx_clamp (n := s) (by omega), zx_clamp (n := f) (by omega), zx_clamp (n := n) (by omega)]
  have hS := zc_shs hs
  have hC : zm_C zc_H (d + 2) mX5_renew [.ref (40 + 2 * s), .int (nI f), .int (nI n)] w (zp .null (fun u => (∀ k, k ≠ 40 + 2 * s → k ≠ 41 + 2 * s → u.1 k = w.1 k) ∧ u.2 = w.2 ∧ u.1 (40 + 2 * s) 1 = 0 ∧ u.1 (40 + 2 * s) 2 = nI f ∧ u.1 (40 + 2 * s) 3 = nI n ∧ ∀ i, i < 60 → u.1 (41 + 2 * s) i = 0)) := by
    refine zm_C.of mtX5_renew.1.2.2.2.2.2.2 rfl (Nat.le_of_ble_eq_true rfl) ?_
    refine gX5_renew_0 hS (k_fill (o := 40 + 2 * s + 1) (n := 60) (by decide) hS.2 0 _) (zp_v (fun u hu => gX5_renew_8 hS ?_))
    obtain ⟨⟨uk, ul⟩, u0⟩ := hu
    rw [zc_41] at uk u0
    refine ⟨rfl, fun k x y => ?_, ul, ?_, ?_, ?_, fun i hi => ?_⟩
    · rw [zm_pa_ne x, zm_pa_ne x, zm_pa_ne x, uk k y]
    · rw [zm_pa_at, pk_us]
    · rw [zm_pa_at, pk_un (by decide), zm_pa_at, pk_un (by decide), zm_pa_at, pk_us]
    · rw [zm_pa_at, pk_un (by decide), zm_pa_at, pk_us]
    · rw [zm_pa_ne (by omega), zm_pa_ne (by omega), zm_pa_ne (by omega)]
      exact u0 i hi
  refine gX7_sheet_35 (vp_in_nI hs (by decide)) (zc_at hs) hC (zp_v (fun u hu => gX7_sheet_46 ⟨rfl, ?_⟩))
  obtain ⟨uk, ul, u1, u2, u3, u0⟩ := hu
  refine h.sheets (b := (zs_u (zs_u a.1 8 s (f + 1)) 9 s n, fun s' i => if s' = s then 0 else a.2 s' i)) (fun c hc => funext fun i => ?_) (zs_sheet_ok ha s hf hn _) (fun k _ hk => uk k (by omega) (by omega)) ul ?_ (fun s' hs' => ?_)
  · show _ = zs_u _ _ _ _ _ _
    rw [zs_u_c (by omega), zs_u_c (by omega)]
  · rw [uk 0 (by omega) (by omega)]
    exact h.1.2.2.2.2.1
  obtain ⟨q1, q3, q4⟩ := h4 s' hs'
  show _ = zi (zs_u (zs_u a.1 8 s (f + 1)) 9 s n 8 s' = 0) ∧ _ = nI (zs_u (zs_u a.1 8 s (f + 1)) 9 s n 9 s') ∧ (zs_u (zs_u a.1 8 s (f + 1)) 9 s n 8 s' ≠ 0 → _ = nI (zs_u (zs_u a.1 8 s (f + 1)) 9 s n 8 s' - 1) ∧ ∀ i, i < zs_u (zs_u a.1 8 s (f + 1)) 9 s n 9 s' → _ = if s' = s then 0 else a.2 s' i)
  rw [zs_u_c (c' := 8) (by decide)]
  by_cases e : s' = s
  · subst e
    rw [zs_u_same, zs_u_same, u1, u2, u3]
    exact ⟨by rw [zi_f (by omega)], rfl, fun _ => ⟨by rw [Nat.add_sub_cancel], fun i hi => by rw [if_pos rfl]; exact u0 i (by omega)⟩⟩
  · rw [zs_u_i e, zs_u_i e, zs_u_i e, uk (40 + 2 * s') (by omega) (by omega)]
    refine ⟨q1, q3, fun h8 => ⟨(q4 h8).1, fun i hi => ?_⟩⟩
    rw [if_neg e, uk (41 + 2 * s') (by omega) (by omega)]
    exact (q4 h8).2 i hi
theorem k_hasRange {d : Nat} {a : zs_A} {w : zm_S} (ha : zs_ok a) (h : zc_4 a w) {s : Nat} (hs : s < 4) (x n : Int32) : zm_C zc_H d mX5_hasRange [.ref (40 + 2 * s), .int x, .int n] w (zq (.int (zi ((0 ≤ x ∧ 0 ≤ n) ∧ x.toNatClampNeg + n.toNatClampNeg ≤ a.1 9 s))) w) := by
  have hS := zc_shs hs
  obtain ⟨s1, s3, s4⟩ := h s hs
  have hsz := (ha.2.2.2.1 s hs).2
  refine zm_C.of mtX5_hasRange.1.2.2.2.2.2.2 rfl (Nat.le_of_ble_eq_true rfl) ?_
  have bad : ¬ ((0 ≤ x ∧ 0 ≤ n) ∧ x.toNatClampNeg + n.toNatClampNeg ≤ a.1 9 s) → zm_T zc_H d mX5_hasRange (zq (.int (zi ((0 ≤ x ∧ 0 ≤ n) ∧ x.toNatClampNeg + n.toNatClampNeg ≤ a.1 9 s))) w) 30 [] [] w := fun hb => gX5_hasRange_30 (by rw [zi_f hb]; exact zq_m _ _)
  refine gX5_hasRange_0 hS (fun g => bad (fun q => absurd q.1.1 (Int32.not_le.mpr g))) (fun g1 => ?_)
  refine gX5_hasRange_4 hS (fun g => bad (fun q => absurd q.1.2 (Int32.not_le.mpr g))) (fun g2 => ?_)
  obtain ⟨x, hx, rfl⟩ := nI_of g1
  obtain ⟨n, hn, rfl⟩ := nI_of g2
  rw [zx_clamp hx, zx_clamp hn] at bad ⊢
  refine gX5_hasRange_8 hS (fun g => bad (fun q => ?_)) (fun g3 => ?_)
  · rw [s3, nI_ltI (by omega) hn] at g
    omega
  rw [s3, nI_ltI (by omega) hn] at g3
  refine gX5_hasRange_16 hS (fun g => bad (fun q => ?_)) (fun g => gX5_hasRange_26 ?_)
  · rw [s3, pk_sub (by omega), nI_ltI (by omega) hx] at g
    omega
  · rw [s3, pk_sub (by omega), nI_ltI (by omega) hx] at g
    rw [zi_t ⟨⟨nI_pos' hx, nI_pos' hn⟩, by omega⟩]
    exact zq_m _ _
theorem c_copy {d : Nat} {a : zs_A} {w : zm_S} (h : zc_P a w) (s i t j n : Int32) : zm_C zc_H (d + 3) mX7_copy [.ref 0, .int s, .int i, .int t, .int j, .int n] w (zp (.int (zs_copy a s i t j n).1) (zc_P (zs_copy a s i t j n).2)) := by
  have ha := h.1.1.1
  have h4 := h.1.2.2.2.2.2.2
  refine zm_C.of mtX7_copy.1.2.2.2.2.2.2 rfl (Nat.le_of_ble_eq_true rfl) ?_
  have bad : ¬ ((0 ≤ s ∧ s < 4) ∧ 0 ≤ t ∧ t < 4) → zm_T zc_H (d + 3) mX7_copy (zp (.int (zs_copy a s i t j n).1) (zc_P (zs_copy a s i t j n).2)) 16 [] [] w := fun hb => gX7_copy_16 (by rw [zs_copy, if_neg hb]; exact ⟨rfl, h⟩)
  refine gX7_copy_0 (k_within _ _) (zq_i ?_)
  refine gX7_copy_5 (fun g => bad (fun c => zi_0.mp g c.1)) (fun g1 => ?_)
  refine gX7_copy_8 (k_within _ _) (zq_i ?_)
  refine gX7_copy_13 (fun g2 => ?_) (fun g => bad (fun c => zi_0.mp g c.2))
  have hG : (0 ≤ s ∧ s < 4) ∧ 0 ≤ t ∧ t < 4 := ⟨zi_n0.mp g1, zi_n0.mp g2⟩
  rw [zs_copy, if_pos hG]
  obtain ⟨s, hs, rfl⟩ := zx_of (n := 4) hG.1 (by decide)
  obtain ⟨t, ht, rfl⟩ := zx_of (n := 4) hG.2 (by decide)
  rw [zx_clamp (n := s) (by omega), zx_clamp (n := t) (by omega)]
  obtain ⟨s1, s3, s4⟩ := h4 s hs
  obtain ⟨t1, t3, t4⟩ := h4 t ht
  have hS := zc_shs hs
  have hT := zc_shs ht
  have hss := ha.2.2.2.1 s hs
  have hst := ha.2.2.2.1 t ht
  refine gX7_copy_19 (vp_in_nI hs (by decide)) (zc_at hs) (vp_in_nI ht (by decide)) (zc_at ht) (fun g => gX7_copy_51 (k_tellFinding _) (zq_i (gX7_copy_56 ?_))) (fun g => ?_)
  · rw [s1] at g
    rw [if_pos (Or.inl (zi_n0.mp g))]
    exact h.metp rfl (by decide)
  rw [s1] at g
  have hs8 := zi_0.mp g
  refine gX7_copy_43 hS hT (fun g3 => ?_) (fun g3 => gX7_copy_51 (k_tellFinding _) (zq_i (gX7_copy_56 ?_)))
  rotate_left
  · rw [t1] at g3
    rw [if_pos (Or.inr (zi_n0.mp g3))]
    exact h.metp rfl (by decide)
  rw [t1] at g3
  have ht8 := zi_0.mp g3
  obtain ⟨s2, sI⟩ := s4 hs8
  obtain ⟨t2, tI⟩ := t4 ht8
  rw [if_neg (fun q => q.elim hs8 ht8)]
  refine gX7_copy_57 hS hT (fun g4 => ?_) (fun g4 => gX7_copy_70 (k_tellFinding _) (zq_i (gX7_copy_75 ?_)))
  rotate_left
  · rw [s2, t2] at g4
    rw [if_pos (fun q => g4 (by rw [q]))]
    exact h.metp rfl (by decide)
  rw [s2, t2, nI_eq (by omega) (by omega)] at g4
  rw [if_neg (fun q => q (by omega))]
  have out : ¬ ((0 ≤ i ∧ 0 ≤ j ∧ 0 ≤ n) ∧ i.toNatClampNeg + n.toNatClampNeg ≤ a.1 9 s ∧ j.toNatClampNeg + n.toNatClampNeg ≤ a.1 9 t) → ∀ X : Int32 × zs_A, zm_T zc_H (d + 3) mX7_copy (zp (.int (if (0 ≤ i ∧ 0 ≤ j ∧ 0 ≤ n) ∧ i.toNatClampNeg + n.toNatClampNeg ≤ a.1 9 s ∧ j.toNatClampNeg + n.toNatClampNeg ≤ a.1 9 t then X else zs_met a 2).1) (zc_P (if (0 ≤ i ∧ 0 ≤ j ∧ 0 ≤ n) ∧ i.toNatClampNeg + n.toNatClampNeg ≤ a.1 9 s ∧ j.toNatClampNeg + n.toNatClampNeg ≤ a.1 9 t then X else zs_met a 2).2)) 99 [(0, .ref 0)] [] w := fun hb X => by
    rw [if_neg hb]
    exact gX7_copy_99 (k_tellFinding _) (zq_i (gX7_copy_104 (h.metp rfl (by decide))))
  refine gX7_copy_76 hS hT (k_hasRange ha h4 hs i n) (zq_i ?_)
  refine gX7_copy_84 hS hT (fun g5 => out (fun q => zi_0.mp g5 ⟨⟨q.1.1, q.1.2.2⟩, q.2.1⟩) _) (fun g5 => ?_)
  refine gX7_copy_87 hS hT (k_hasRange ha h4 ht j n) (zq_i ?_)
  refine gX7_copy_96 hS hT (fun g6 => ?_) (fun g6 => out (fun q => zi_0.mp g6 ⟨⟨q.1.2.1, q.1.2.2⟩, q.2.2⟩) _)
  have r1 := zi_n0.mp g5
  have r2 := zi_n0.mp g6
  rw [if_pos ⟨⟨r1.1.1, r2.1.1, r1.1.2⟩, r1.2, r2.2⟩]
  refine gX7_copy_105 hS hT (Int32.not_lt.mpr r1.1.1) (Int32.not_lt.mpr r2.1.1) (Int32.not_lt.mpr r1.1.2) (by omega) (by omega) ?_
  rw [zc_41, zc_41]
  refine ⟨rfl, h.items (fun k hk => zm_pa_ne (by omega)) rfl (fun s' hs' => ?_)⟩
  obtain ⟨q1, q3, q4⟩ := h4 s' hs'
  rw [zm_pa_ne (by omega)]
  refine ⟨q1, q3, fun h8 => ⟨(q4 h8).1, fun b hb => ?_⟩⟩
  have := (q4 h8).2 b hb
  show _ = if s' = t ∧ j.toNatClampNeg ≤ b ∧ b < j.toNatClampNeg + n.toNatClampNeg then a.2 s (i.toNatClampNeg + (b - j.toNatClampNeg)) else a.2 s' b
  by_cases e : s' = t
  · subst e
    rw [zm_pa_at]
    unfold va_cpy
    by_cases c : j.toNatClampNeg ≤ b ∧ b < j.toNatClampNeg + n.toNatClampNeg
    · rw [if_pos c, if_pos ⟨rfl, c⟩]
      exact sI _ (by omega)
    · rw [if_neg c, if_neg (fun q => c q.2)]
      exact this
  · rw [zm_pa_ne (by omega), if_neg (fun q => e q.1)]
    exact this
theorem zs_own_blw {a : zs_A} (h : zs_ok a) (p : Nat) : zs_blw a p 0 = nI (zs_own a p) := (zs_own_ok h p).2.2
theorem l_writeC {d : Nat} {a : zs_A} {s c : Nat} (hs : s < 4) (h8 : a.1 8 s ≠ 0) (hc : c ≤ a.1 9 s) (hc12 : c ≤ 12) : ∀ (m p : Nat) (w : zm_S), zc_Q (a.1, zs_wr a s p) w → p + m = c → zm_T zc_H (d + 4) mX7_write (zp (.int (nI c)) (zc_P (a.1, zs_wr a s c))) 48 [(0, .ref 0), (2, .ref (40 + 2 * s)), (3, .int (nI c)), (4, .int (nI p))] [] w := by
  have hS := zc_shs hs
  intro m
  induction m with
  | zero =>
    intro p w h hp
    obtain rfl : p = c := by omega
    exact gX7_write_48 hS (fun _ => gX7_write_72 ⟨rfl, h.P⟩) (fun q => absurd (Int32.le_refl _) q)
  | succ m ih =>
    intro p w h hp
    have ha := h.1.1.1
    refine gX7_write_48 hS (fun q => absurd q (nI_ge (by omega) (by omega))) (fun _ => ?_)
    refine gX7_write_54 hS (k_stateOf h (by omega)) (zq_i ?_)
    refine gX7_write_63 hS hS (k_putC ha h.1.2.2.2.2.2.2 hs h8 (show p < a.1 9 s by omega) _) (zq_v (gX7_write_66 hS ?_))
    rw [nI_1]
    have hput := h.put hs (b := p) (zs_cut (nI (a.1 8 s) - 1) (zs_blw a p 0))
    rw [show ((a.1, zs_wr a s p) : zs_A).2 = zs_wr a s p from rfl, zs_wr_1] at hput
    rw [← zs_own_blw ha, zg_blw (a := (a.1, zs_wr a s p)) (b := a) rfl]
    exact ih (p + 1) _ hput (by omega)
theorem c_write {d : Nat} {a : zs_A} {w : zm_S} (h : zc_P a w) (s : Int32) : zm_C zc_H (d + 4) mX7_write [.ref 0, .int s] w (zp (.int (zs_write a s).1) (zc_P (zs_write a s).2)) := by
  have ha := h.1.1.1
  have h4 := h.1.2.2.2.2.2.2
  refine zm_C.of mtX7_write.1.2.2.2.2.2.2 rfl (Nat.le_of_ble_eq_true rfl) ?_
  refine gX7_write_0 (k_within _ _) (zq_i ?_)
  refine gX7_write_5 (fun g => ?_) (fun g => gX7_write_8 (by rw [zs_write, if_neg (zi_0.mp g)]; exact ⟨rfl, h⟩))
  have hG := zi_n0.mp g
  rw [zs_write, if_pos hG]
  obtain ⟨s, hs, rfl⟩ := zx_of (n := 4) hG (by decide)
  obtain ⟨s1, s3, s4⟩ := h4 s hs
  have hsz := (ha.2.2.2.1 s hs).2
  rw [zx_clamp (by omega)]
  refine gX7_write_11 (vp_in_nI hs (by decide)) (zc_at hs) (fun g2 => ?_) (fun g2 => gX7_write_25 (k_tellFinding _) (zq_i (gX7_write_30 ?_)))
  rotate_left
  · rw [s1] at g2
    rw [if_pos (zi_n0.mp g2)]
    exact h.metp rfl (by decide)
  rw [s1] at g2
  have h8 := zi_0.mp g2
  rw [if_neg h8]
  refine gX7_write_31 (zc_shs hs) (k_findStates h) (zp_v (fun u hu => gX7_write_35 (zc_shs hs) ?_))
  obtain ⟨uQ, uk, ul⟩ := hu
  rw [uk (40 + 2 * s) (by omega), s3, show (12 : Int32) = nI 12 from rfl, zx_min (k := 12) (n := a.1 9 s) (by decide) (by omega), Nat.min_comm]
  refine l_writeC hs h8 (by omega) (by omega) (min (a.1 9 s) 12) 0 u ?_ (by omega)
  rw [zs_wr_0]
  exact uQ
