/-! ===== the digest ===== -/
def zs_J (h : Int64) (x : Int32) : Int64 := 31 * h + x.toInt64
def zs_dc (a : zs_A) : Nat → Int64
  | 0 => 17
  | k + 1 => zs_J (zs_dc a k) (zs_countN a k)
def zs_dpu (a : zs_A) (p : Nat) (h : Int64) : Int64 := zs_J (zs_J (zs_J (zs_J (zs_J (zs_J h (nI (zs_spw a p 0))) (nI (zs_spw a p 1))) (zs_blw a p 0)) (zs_blw a p 1)) (zs_blw a p 2)) (zs_lk a p 2 3 (2 ^ a.1 0 0)).1
def zs_dpl (a : zs_A) : Nat → Int64
  | 0 => zs_J (zs_dc a 8) (zs_fault a)
  | p + 1 => zs_dpu a p (zs_dpl a p)
def zs_dqu (a : zs_A) (q : Nat) (h : Int64) : Int64 := zs_J (zs_J (zs_J (zs_J (zs_J (zs_J h (nI ((zs_best a none none).2.2.getD q 0))) (nI (zs_wo a q 0))) (nI (zs_wo a q 1))) (nI (zs_dp a q (2 ^ a.1 0 0)))) (zi (zs_need a 0 q ((q + 1) % a.1 0 0) = true))) (zi (zs_need a 1 q ((q + 1) % a.1 0 0) = true))
def zs_dql (a : zs_A) : Nat → Int64
  | 0 => zs_J (zs_J (zs_dpl a 12) (nI (zs_best a none none).1)) (nI (zs_best a none none).2.1)
  | q + 1 => zs_dqu a q (zs_dql a q)
def zs_dfl (a : zs_A) : Nat → Int64
  | 0 => zs_dql a (a.1 0 0)
  | k + 1 => 31 * zs_dfl a k + zs_fitN a (k / 2) (k % 2)
def zs_digest (a : zs_A) : Int64 := zs_J (zs_J (zs_J (zs_J (zs_J (zs_J (zs_J (zs_J (zs_dfl a 4) (zs_od a 12).1) (zs_wr2 a 0 (a.1 0 0)).1) (zs_wr2 a 1 (a.1 0 0)).1) (zs_stl a (-1) (2 ^ a.1 0 0) 0)) (zs_paths a)) (zs_sureN a 0 0 0)) (zs_sureN a 0 0 1)) (zs_les a 2 (-1))
def zd_r (a : zs_A) (v : zm_S) : Prop := ∀ j, j < (zs_best a none none).2.2.length → v.1 16 j = nI ((zs_best a none none).2.2.getD j 0)
theorem l_dg1 {d : Nat} {a : zs_A} {Q : Value → zm_S → Prop} (hk : ∀ u, zd_P a u → zm_T zd_H (d + 6) mX8_digest Q 31 [(0, .ref 0), (1, .long (zs_dc a 8))] [] u) : ∀ (m k : Nat) (v : zm_S), zd_P a v → k + m = 8 → zm_T zd_H (d + 6) mX8_digest Q 6 [(0, .ref 0), (1, .long (zs_dc a k)), (3, .int (nI k))] [] v := by
  intro m
  induction m with
  | zero =>
    intro k v h hk2
    obtain rfl : k = 8 := by omega
    exact gX8_digest_6 (fun _ => hk v h) (fun q => absurd (by decide) q)
  | succ m ih =>
    intro k v h hk2
    refine gX8_digest_6 (fun q => absurd q (nI_ge (b := 8) (by omega) (by omega))) (fun _ => ?_)
    refine gX8_digest_12 (m_count h (nI k)) (zp_i (fun u hu => gX8_digest_22 ?_))
    have next := ih (k + 1) u hu.1 (by omega)
    have e : zs_count a (nI k) = zs_countN a k := by
      rw [zs_count, zx_clamp (by omega), if_pos]
      exact (zx_in (n := 9) (by decide)).mp (vp_in_nI (by omega) (by decide))
    rw [e, nI_1]
    exact next
theorem l_dg2 {d : Nat} {a : zs_A} {Q : Value → zm_S → Prop} {x y : Int32} (hk : ∀ u, zd_P a u → zd_r a u → zm_T zd_H (d + 7) mX8_digest Q 193 [(0, .ref 0), (1, .long (zs_dpl a 12)), (3, .int x), (4, .int y), (5, .int (zs_od a 12).1)] [] u) : ∀ (m k : Nat) (v : zm_S), zd_P a v → zd_S a v → zd_r a v → k + m = 12 → zm_T zd_H (d + 7) mX8_digest Q 67 [(0, .ref 0), (1, .long (zs_dpl a k)), (3, .int x), (4, .int y), (5, .int (zs_od a k).1), (6, .int (nI (zs_od a k).2)), (7, .int (nI k))] [] v := by
  intro m
  induction m with
  | zero =>
    intro k v h hS hr hk2
    obtain rfl : k = 12 := by omega
    exact gX8_digest_67 (fun _ => hk v h hr) (fun q => absurd (by decide) q)
  | succ m ih =>
    intro k v h hS hr hk2
    have hle := zs_od_le a k
    have hw := zs_spw_le (a := a) k
    refine gX8_digest_67 (fun q => absurd q (nI_ge (b := 12) (by omega) (by omega))) (fun _ => ?_)
    refine gX8_digest_74 (k_stepOf h hS hr (by omega) (w := 1) (by decide)) (zq_i ?_)
    have go : zm_T zd_H (d + 7) mX8_digest Q 113 [(0, .ref 0), (1, .long (zs_dpl a k)), (3, .int x), (4, .int y), (5, .int (zs_od a (k + 1)).1), (7, .int (nI k)), (8, .int (nI (zs_spw a k 1)))] [.int (nI (zs_od a (k + 1)).2)] v := by
      refine gX8_digest_113 (k_stepOf h hS hr (by omega) (w := 0) (by decide)) (zq_i (gX8_digest_127 ?_))
      refine gX8_digest_143 (fun q => absurd q (by decide)) (fun _ => ?_)
      refine gX8_digest_149 (k_belongsOf_g h (by omega) (w := 0) (by decide)) (zp_i (fun u1 h1 => gX8_digest_162 ?_))
      refine gX8_digest_143 (fun q => absurd q (by decide)) (fun _ => ?_)
      refine gX8_digest_149 (k_belongsOf_g h1.1.1 (by omega) (w := 1) (by decide)) (zp_i (fun u2 h2 => gX8_digest_162 ?_))
      refine gX8_digest_143 (fun q => absurd q (by decide)) (fun _ => ?_)
      refine gX8_digest_149 (k_belongsOf_g h2.1.1 (by omega) (w := 2) (by decide)) (zp_i (fun u3 h3 => gX8_digest_162 ?_))
      refine gX8_digest_143 (fun _ => ?_) (fun q => absurd (by decide) q)
      refine gX8_digest_171 (k_likeliestOf_g h3.1.1 (by omega) (sl := 2) (lu := 3) (by decide) (by decide)) (zp_i (fun u4 h4 => gX8_digest_184 ?_))
      rw [nI_1]
      exact ih (k + 1) u4 h4.1.1 h4.1.2.1 (fun j hj => by rw [h4.2 16 (by decide), h3.2 16 (by decide), h2.2 16 (by decide), h1.2 16 (by decide)]; exact hr j hj) (by omega)
    rw [show zs_od a (k + 1) = if (zs_od a k).2 < zs_spw a k 1 then (nI k, zs_spw a k 1) else zs_od a k from rfl] at go
    refine gX8_digest_81 (fun g => gX8_digest_95 ?_) (fun g => gX8_digest_90 ?_)
    · refine gX8_digest_97 (fun _ => gX8_digest_111 ?_) (fun g2 => absurd g g2)
      rw [nI_leI (by omega) (by omega)] at g
      rw [if_neg (by omega)] at go
      exact go
    · refine gX8_digest_97 (fun g2 => absurd g2 g) (fun _ => gX8_digest_106 ?_)
      rw [nI_leI (by omega) (by omega)] at g
      rw [if_pos (by omega)] at go
      exact go
theorem l_dg3 {d : Nat} {a : zs_A} {Q : Value → zm_S → Prop} {x : Int64} {y : Int32} (hk : ∀ u, zd_P a u → (∀ j, j < a.1 0 0 → u.1 22 j = nI ((zs_best a none none).2.2.getD j 0)) → zm_T zd_H (d + 1) mX8_digest Q 244 [(0, .ref 0), (1, .long x), (5, .int y)] [] u) : ∀ (m k : Nat) (v : zm_S), zd_P a v → zd_r a v → (∀ j, j < k → v.1 22 j = nI ((zs_best a none none).2.2.getD j 0)) → k + m = a.1 0 0 → zm_T zd_H (d + 1) mX8_digest Q 215 [(0, .ref 0), (1, .long x), (5, .int y), (7, .int (nI k))] [] v := by
  intro m
  induction m with
  | zero =>
    intro k v h hr h22 hk2
    obtain rfl : k = a.1 0 0 := by omega
    refine gX8_digest_215 (k_n h) (zq_i ?_)
    exact gX8_digest_221 (fun _ => hk v h h22) (fun q => absurd (Int32.le_refl _) q)
  | succ m ih =>
    intro k v h hr h22 hk2
    have hn := h.1.1
    refine gX8_digest_215 (k_n h) (zq_i ?_)
    refine gX8_digest_221 (fun q => absurd q (nI_ge (by omega) (by omega))) (fun _ => ?_)
    refine gX8_digest_224 (vp_in_nI (by omega) (by decide)) (vp_in_nI (by omega) (by decide)) ?_
    rw [nI_1, zx_clamp (by omega), hr k (by rw [zs_best_len h.1]; omega)]
    refine ih (k + 1) _ (h.pa (by omega) _) (fun j hj => by rw [zm_pa_ne (by decide)]; exact hr j hj) (fun j hj => ?_) (by omega)
    rw [zm_pa_at]
    by_cases z : j = k
    · rw [z, pk_us]
    · rw [pk_un z]; exact h22 j (by omega)
theorem zx_mod0 : ∀ n, n < 8 → ∀ q, q < 8 → n ≠ 0 → nI (q + 1) - nI (q + 1) / nI n * nI n = nI ((q + 1) % n) := by decide +kernel
theorem l_dg4 {d : Nat} {a : zs_A} {Q : Value → zm_S → Prop} {y : Int32} (hk : ∀ u, zd_P a u → zm_T zd_H (d + 7) mX8_digest Q 373 [(0, .ref 0), (1, .long (zs_dql a (a.1 0 0))), (5, .int y)] [] u) : ∀ (m k : Nat) (v : zm_S), zd_P a v → (∀ j, j < a.1 0 0 → v.1 22 j = nI ((zs_best a none none).2.2.getD j 0)) → k + m = a.1 0 0 → zm_T zd_H (d + 7) mX8_digest Q 247 [(0, .ref 0), (1, .long (zs_dql a k)), (5, .int y), (7, .int (nI k))] [] v := by
  intro m
  induction m with
  | zero =>
    intro k v h h22 hk2
    obtain rfl : k = a.1 0 0 := by omega
    refine gX8_digest_247 (k_n h) (zq_i ?_)
    exact gX8_digest_253 (fun _ => hk v h) (fun q => absurd (Int32.le_refl _) q)
  | succ m ih =>
    intro k v h h22 hk2
    have hn := h.1.1
    have hlt := Nat.mod_lt (k + 1) (show a.1 0 0 > 0 by omega)
    refine gX8_digest_247 (k_n h) (zq_i ?_)
    refine gX8_digest_253 (fun q => absurd q (nI_ge (by omega) (by omega))) (fun _ => ?_)
    refine gX8_digest_256 (vp_in_nI (by omega) (by decide)) (k_withoutOf h (q := k) (by omega) (w := 0) (by decide)) (zp_i (fun u1 h1 => ?_))
    refine gX8_digest_283 (k_withoutOf h1.1 (q := k) (by omega) (w := 1) (by decide)) (zp_i (fun u2 h2 => ?_))
    refine gX8_digest_298 (k_deepOf_g h2.1 (q := k) (by omega)) (zp_i (fun u3 h3 => ?_))
    refine gX8_digest_312 (k_n h3.1.1) (zq_i ?_)
    refine gX8_digest_323 (fun q => absurd ((nI_eq (b := 0) (by omega) (by decide)).mp q) (by omega)) ?_
    rw [nI_1, zx_mod0 _ (by omega) _ (by omega) (by omega), zx_clamp (by omega), h22 k (by omega)]
    have need : ∀ w, w < 2 → zm_C zd_H (d + 6) mX8_isNeeded [.ref 0, .int (nI k), .int (nI ((k + 1) % a.1 0 0)), .int (nI w)] u3 (zq (.int (zi (zs_need a w k ((k + 1) % a.1 0 0) = true))) u3) := fun w hw => k_isNeeded h3.1.1 h3.1.2.1 h3.1.2.2.1 (by omega) (by omega) hw
    have go : ∀ (w : Nat) (hw : w < 2) (x : Int64), zm_T zd_H (d + 7) mX8_digest Q 329 [(0, .ref 0), (1, .long (zs_J x (zi (zs_need a w k ((k + 1) % a.1 0 0) = true)))), (5, .int y), (7, .int (nI k)), (8, .int (nI ((k + 1) % a.1 0 0))), (9, .int (nI (w + 1)))] [] u3 → zm_T zd_H (d + 7) mX8_digest Q 329 [(0, .ref 0), (1, .long x), (5, .int y), (7, .int (nI k)), (8, .int (nI ((k + 1) % a.1 0 0))), (9, .int (nI w))] [] u3 := by
      intro w hw x hh
      refine gX8_digest_329 (fun q => absurd q (nI_ge (b := 2) (by omega) (by omega))) (fun _ => ?_)
      refine gX8_digest_335 (need w hw) (zq_i ?_)
      refine gX8_digest_350 (fun g => gX8_digest_357 (gX8_digest_358 ?_)) (fun g => gX8_digest_353 (gX8_digest_358 ?_))
      · rw [zi_f (zi_0.mp g)] at hh
        rw [nI_1]
        exact hh
      · rw [zi_t (zi_n0.mp g)] at hh
        rw [nI_1]
        exact hh
    refine go 0 (by decide) _ (go 1 (by decide) _ ?_)
    refine gX8_digest_329 (fun _ => gX8_digest_367 ?_) (fun q => absurd (by decide) q)
    rw [nI_1]
    refine ih (k + 1) u3 h3.1.1 (fun j hj => ?_) (by omega)
    rw [h3.2 22 (by decide), h2.2.2 22 (by decide), h1.2.2 22 (by decide)]
    exact h22 j hj
theorem zx_div2 : ∀ k, k < 4 → nI k / 2 = nI (k / 2) ∧ nI k - nI k / 2 * 2 = nI (k % 2) := by decide +kernel
theorem l_dg5 {d : Nat} {a : zs_A} {Q : Value → zm_S → Prop} {y : Int32} (hk : ∀ u, zd_P a u → zm_T zd_H (d + 6) mX8_digest Q 407 [(0, .ref 0), (1, .long (zs_dfl a 4)), (5, .int y)] [] u) : ∀ (m k : Nat) (v : zm_S), zd_P a v → k + m = 4 → zm_T zd_H (d + 6) mX8_digest Q 376 [(0, .ref 0), (1, .long (zs_dfl a k)), (5, .int y), (7, .int (nI k))] [] v := by
  intro m
  induction m with
  | zero =>
    intro k v h hk2
    obtain rfl : k = 4 := by omega
    exact gX8_digest_376 (fun _ => hk v h) (fun q => absurd (by decide) q)
  | succ m ih =>
    intro k v h hk2
    obtain ⟨e1, e2⟩ := zx_div2 k (by omega)
    refine gX8_digest_376 (fun q => absurd q (nI_ge (b := 4) (by omega) (by omega))) (fun _ => ?_)
    refine gX8_digest_382 (by decide) (by decide) (by rw [e2, e1]; exact k_fitOf h (by omega) (Nat.mod_lt _ (by decide))) (zp_l (fun u hu => gX8_digest_399 ?_))
    rw [nI_1]
    exact ih (k + 1) u hu (by omega)
theorem m_digest {d : Nat} {a : zs_A} {v : zm_S} (h : zd_P a v) : zm_C zd_H (d + 8) mX8_digest [.ref 0] v (zp (.long (zs_digest a)) (zd_P a)) := by
  refine zm_C.of mtX8_digest.1.2.2.2.2.2.2 rfl (Nat.le_of_ble_eq_true rfl) ?_
  refine gX8_digest_0 (l_dg1 (d := d + 2) (a := a) (fun u0 h0 => ?_) 8 0 v h rfl)
  refine gX8_digest_31 (k_reads h0) (zp_i (fun u1 h1 => ?_))
  refine gX8_digest_40 (k_findBest h1.1) (zp_v (fun u2 h2 => gX8_digest_47 ?_))
  refine l_dg2 (d := d + 1) (a := a) (fun u3 h3 hr => gX8_digest_193 ?_) 12 0 u2 h2.1 h2.2.1 h2.2.2.1.2.2 rfl
  refine l_dg3 (d := d + 7) (a := a) (fun u4 h4 h22 => gX8_digest_244 ?_) (a.1 0 0) 0 u3 h3 hr (fun j hj => absurd hj (Nat.not_lt_zero j)) (by omega)
  rw [h2.2.2.1.1, h2.2.2.1.2.1]
  refine l_dg4 (d := d + 1) (a := a) (fun u5 h5 => gX8_digest_373 ?_) (a.1 0 0) 0 u4 h4 h22 (by omega)
  refine l_dg5 (d := d + 2) (a := a) (fun u6 h6 => ?_) 4 0 u5 h5 rfl
  refine gX8_digest_407 (k_worstOf h6 (w := 0) (by decide)) (zp_i (fun u7 h7 => ?_))
  refine gX8_digest_427 (k_worstOf h7 (w := 1) (by decide)) (zp_i (fun u8 h8 => ?_))
  refine gX8_digest_440 (k_statesOf h8 (-1)) (zp_i (fun u9 h9 => ?_))
  refine gX8_digest_453 (k_pathsNow h9.1) (zp_i (fun u10 h10 => ?_))
  refine gX8_digest_465 (k_sureOf h10.1 (w1 := 0) (w2 := 0) (w := 0) (by decide) (by decide) (by decide)) (zp_i (fun u11 h11 => ?_))
  refine gX8_digest_480 (k_sureOf h11.1 (w1 := 0) (w2 := 0) (w := 1) (by decide) (by decide) (by decide)) (zp_i (fun u12 h12 => ?_))
  refine gX8_digest_495 (k_lessonsOf h12.1 (k := 2) (by decide) (i := -1) (Or.inl rfl)) (zp_i (fun u13 h13 => gX8_digest_509 ?_))
  exact ⟨rfl, h13.1⟩
