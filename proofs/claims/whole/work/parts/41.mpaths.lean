/-- ways to a set, a table that grows -/
def zs_wys (a : zs_A) (f : Nat → Nat) (k : Nat) (m : Nat) : Nat := (if k = 0 then 1 else 0) + fb_sm (fun q => if k.testBit q = true ∧ zs_st a k = true then f (k ^^^ 2 ^ q) else 0) m
def zs_wyt (a : zs_A) : Nat → Nat → Nat
  | 0 => fun _ => 0
  | k + 1 => fun j => if j = k then zs_wys a (zs_wyt a k) k (a.1 0 0) else zs_wyt a k j
def zs_paths (a : zs_A) : Int32 := nI (zs_wyt a (2 ^ a.1 0 0) (2 ^ a.1 0 0 - 1))
theorem zd_N.keep {a : zs_A} {v u : zm_S} (h : zd_N a v) (e : u.1 13 = v.1 13) : zd_N a u := fun b hb => by rw [e]; exact h b hb
theorem zd_V.pa {a : zs_A} {v : zm_S} (h : zd_V a v) {k : Nat} (hk : 14 ≤ k) (f : Nat → Int32) : zd_V a (zm_pa v k f) :=
  ⟨h.1.pa (by omega) f, h.2.1.keep (zm_pa_ne (by omega)), h.2.2.1.keep (zm_pa_ne (by omega)) (zm_pa_ne (by omega)), h.2.2.2.keep (zm_pa_ne (by omega))⟩
theorem zy_xor_bit : ∀ k, k < 128 → ∀ q, q < 7 → k.testBit q = true → k ^^^ 2 ^ q < k := by decide +kernel
theorem l_paths2 {d : Nat} {a : zs_A} {k : Nat} {f : Nat → Nat} {Q : Value → zm_S → Prop} (hk2 : k < 2 ^ a.1 0 0) (hk : ∀ u, zd_V a u → (∀ j, j < k → u.1 17 j = nI (f j)) → u.1 17 k = nI (zs_wys a f k (a.1 0 0)) → zm_T zd_H (d + 2) mX8_pathsNow Q 84 [(0, .ref 0), (1, .int (nI k))] [] u) : ∀ (m b : Nat) (v : zm_S), zd_V a v → b + m = a.1 0 0 → (∀ j, j < k → v.1 17 j = nI (f j)) → v.1 17 k = nI (zs_wys a f k b) → zm_T zd_H (d + 2) mX8_pathsNow Q 31 [(0, .ref 0), (1, .int (nI k)), (2, .int (nI b))] [] v := by
  intro m
  induction m with
  | zero =>
    intro b v h hb h1 h2
    obtain rfl : b = a.1 0 0 := by omega
    refine gX8_pathsNow_31 (k_n h.1) (zq_i ?_)
    exact gX8_pathsNow_36 (fun _ => hk v h h1 h2) (fun q => absurd (Int32.le_refl _) q)
  | succ m ih =>
    intro b v h hb h1 h2
    have hn := h.1.1.1
    have hp := zn_pow h.1.1
    have hin : vp_in (nI k) 128 := vp_in_nI (by omega) (by decide)
    have fin : ∀ z, nI (zs_wys a f k (b + 1)) = z → zm_T zd_H (d + 2) mX8_pathsNow Q 31 [(0, .ref 0), (1, .int (nI k)), (2, .int (nI b + 1))] [] (zm_pi v 17 (nI k).toNatClampNeg z) := by
      intro z hz
      rw [zx_clamp (by omega), nI_1, ← hz]
      refine ih (b + 1) _ (h.pa (by omega) _) (by omega) (fun j hj => by rw [zm_pa_at, pk_un (by omega)]; exact h1 j hj) (by rw [zm_pa_at, pk_us])
    have e : zs_wys a f k (b + 1) = zs_wys a f k b + (if k.testBit b = true ∧ zs_st a k = true then f (k ^^^ 2 ^ b) else 0) := by
      unfold zs_wys
      rw [fb_sm_succ]
      omega
    refine gX8_pathsNow_31 (k_n h.1) (zq_i ?_)
    refine gX8_pathsNow_36 (fun q => absurd q (nI_ge (by omega) (by omega))) (fun _ => ?_)
    refine gX8_pathsNow_39 hin (k_isIn (by omega) (by omega)) (zq_i ?_)
    rw [zx_clamp (by omega), h2]
    have no : ∀ (g : ¬ (k.testBit b = true ∧ zs_st a k = true)), zm_T zd_H (d + 2) mX8_pathsNow Q 75 [(0, .ref 0), (1, .int (nI k)), (2, .int (nI b))] [.int (nI (zs_wys a f k b)), .int (nI k), .ref 17] v := fun g => by
      refine gX8_pathsNow_75 (gX8_pathsNow_76 hin (fin _ ?_))
      rw [e, if_neg g, show (0 : Int32) = nI 0 from rfl, nI_add]
    refine gX8_pathsNow_51 (fun g => no (fun q => zi_0.mp g q.1)) (fun g => ?_)
    refine gX8_pathsNow_54 (k_isState h.1 h.2.2.2 (by omega)) (zq_i ?_)
    refine gX8_pathsNow_59 (fun g2 => no (fun q => zi_0.mp g2 q.2)) (fun g2 => ?_)
    have gb := zi_n0.mp g
    have hx := zy_xor_bit k (by omega) b (by omega) gb
    refine gX8_pathsNow_62 (by rw [zy_bit b (by omega), fb_xorI]; exact vp_in_nI (by omega) (by decide)) (gX8_pathsNow_76 hin (fin _ ?_))
    rw [zy_bit b (by omega), fb_xorI, zx_clamp (by omega), h1 _ hx, nI_add, e, if_pos ⟨gb, zi_n0.mp g2⟩]
theorem zs_wyt_keep (a : zs_A) (k j : Nat) (h : j < k) : zs_wyt a (k + 1) j = zs_wyt a k j := by
  rw [zs_wyt]
  simp only
  rw [if_neg (by omega)]
theorem l_paths1 {d : Nat} {a : zs_A} : ∀ (m k : Nat) (v : zm_S), zd_V a v → k + m = 2 ^ a.1 0 0 → (∀ j, j < k → v.1 17 j = nI (zs_wyt a k j)) → zm_T zd_H (d + 2) mX8_pathsNow (zp (.int (zs_paths a)) (zd_V a)) 6 [(0, .ref 0), (1, .int (nI k))] [] v := by
  intro m
  induction m with
  | zero =>
    intro k v h hk h1
    have hp := zn_pow h.1.1
    obtain rfl : k = 2 ^ a.1 0 0 := by omega
    refine gX8_pathsNow_6 (k_whole h.1) (zq_i ?_)
    refine gX8_pathsNow_11 (fun _ => ?_) (fun q => absurd (nI_lt (by omega) (by omega)) q)
    refine gX8_pathsNow_90 (k_whole h.1) (zq_i ?_)
    refine gX8_pathsNow_98 (vp_in_nI (by omega) (by decide)) ?_
    rw [zx_clamp (by omega), h1 _ (by omega)]
    exact ⟨rfl, h⟩
  | succ m ih =>
    intro k v h hk h1
    have hp := zn_pow h.1.1
    refine gX8_pathsNow_6 (k_whole h.1) (zq_i ?_)
    refine gX8_pathsNow_11 (fun q => absurd q (nI_nlt (by omega) (by omega))) (fun _ => ?_)
    have go : ∀ z, z = nI (if k = 0 then 1 else 0) → zm_T zd_H (d + 2) mX8_pathsNow (zp (.int (zs_paths a)) (zd_V a)) 28 [(0, .ref 0), (1, .int (nI k))] [.int z, .int (nI k), .ref 17] v := by
      intro z hz
      refine gX8_pathsNow_28 (vp_in_nI (by omega) (by decide)) ?_
      rw [zx_clamp (by omega)]
      refine l_paths2 (f := zs_wyt a k) (by omega) (fun u hu h2 h3 => gX8_pathsNow_84 ?_) (a.1 0 0) 0 _ (h.pa (by omega) _) (by omega) (fun j hj => by rw [zm_pa_at, pk_un (by omega)]; exact h1 j hj) (by rw [zm_pa_at, pk_us, hz]; rfl)
      rw [nI_1]
      refine ih (k + 1) u hu (by omega) (fun j hj => ?_)
      by_cases e : j = k
      · rw [e, h3, zs_wyt]
        simp
      · rw [zs_wyt_keep a k j (by omega)]
        exact h2 j (by omega)
    refine gX8_pathsNow_14 (fun g => gX8_pathsNow_27 (go _ ?_)) (fun g => gX8_pathsNow_23 (go _ ?_))
    · rw [if_neg (fun q => g (by rw [q]; rfl))]
      rfl
    · rw [if_pos ((nI_eq (b := 0) (by omega) (by decide)).mp g)]
      rfl
theorem k_pathsNow {d : Nat} {a : zs_A} {v : zm_S} (h : zd_P a v) : zm_C zd_H (d + 6) mX8_pathsNow [.ref 0] v (zp (.int (zs_paths a)) (zd_V a)) := by
  refine zm_C.of mtX8_pathsNow.1.2.2.2.2.2.2 rfl (Nat.le_of_ble_eq_true rfl) ?_
  refine gX8_pathsNow_0 (k_findNeeds h) (zp_v (fun u hu => gX8_pathsNow_4 ?_))
  exact l_paths1 (2 ^ a.1 0 0) 0 u hu (by omega) (fun j hj => absurd hj (Nat.not_lt_zero j))
theorem m_paths {d : Nat} {a : zs_A} {v : zm_S} (h : zd_P a v) : zm_C zd_H (d + 7) mX8_paths [.ref 0] v (zp (.int (zs_paths a)) (zd_P a)) := by
  refine zm_C.of mtX8_paths.1.2.2.2.2.2.2 rfl (Nat.le_of_ble_eq_true rfl) ?_
  exact gX8_paths_0 (k_pathsNow h) (zp_i (fun u hu => gX8_paths_4 ⟨rfl, hu.1⟩))
def zs_dp (a : zs_A) (q : Nat) : Nat → Nat
  | 0 => 10000
  | k + 1 => if (k.testBit q = true ∧ zs_st a k = true) ∧ zpc k < zs_dp a q k then zpc k else zs_dp a q k
theorem zs_dp_le (a : zs_A) (q : Nat) : ∀ k, zs_dp a q k ≤ 10000
  | 0 => Nat.le_refl _
  | k + 1 => by
    have := zs_dp_le a q k
    have := zpc_le k
    rw [zs_dp]
    split <;> omega
theorem l_deep {d : Nat} {a : zs_A} {v : zm_S} (h : zd_V a v) {q : Nat} (hq : q < 7) : ∀ (m k : Nat), k + m = 2 ^ a.1 0 0 → zm_T zd_H (d + 2) mX8_deepOf (zq (.int (nI (zs_dp a q (2 ^ a.1 0 0)))) v) 10 [(0, .ref 0), (1, .int (nI q)), (2, .int (nI (zs_dp a q k))), (3, .int (nI k))] [] v := by
  intro m
  have hp := zn_pow h.1.1
  induction m with
  | zero =>
    intro k hk
    obtain rfl : k = 2 ^ a.1 0 0 := by omega
    refine gX8_deepOf_10 (k_whole h.1) (zq_i ?_)
    exact gX8_deepOf_15 (fun _ => gX8_deepOf_57 (zq_m _ _)) (fun q => absurd (nI_lt (by omega) (by omega)) q)
  | succ m ih =>
    intro k hk
    have next := ih (k + 1) (by omega)
    have hle := zs_dp_le a q k
    have hpc := zpc_le k
    have no : ∀ (g : ¬ ((k.testBit q = true ∧ zs_st a k = true) ∧ zpc k < zs_dp a q k)), zm_T zd_H (d + 2) mX8_deepOf (zq (.int (nI (zs_dp a q (2 ^ a.1 0 0)))) v) 49 [(0, .ref 0), (1, .int (nI q)), (2, .int (nI (zs_dp a q k))), (3, .int (nI k))] [] v := fun g => by
      refine gX8_deepOf_49 (gX8_deepOf_50 ?_)
      rw [show zs_dp a q (k + 1) = zs_dp a q k by rw [zs_dp, if_neg g]] at next
      rw [nI_1]
      exact next
    refine gX8_deepOf_10 (k_whole h.1) (zq_i ?_)
    refine gX8_deepOf_15 (fun q => absurd q (nI_nlt (by omega) (by omega))) (fun _ => ?_)
    refine gX8_deepOf_18 (k_isIn (by omega) (by omega)) (zq_i ?_)
    refine gX8_deepOf_23 (fun g => no (fun z => zi_0.mp g z.1.1)) (fun g1 => ?_)
    refine gX8_deepOf_26 (k_isState h.1 h.2.2.2 (by omega)) (zq_i ?_)
    refine gX8_deepOf_31 (fun g => no (fun z => zi_0.mp g z.1.2)) (fun g2 => ?_)
    refine gX8_deepOf_34 (k_ones (by omega)) (zq_i ?_)
    refine gX8_deepOf_38 (fun g => no (fun z => by rw [nI_leI (by omega) (by omega)] at g; omega)) (fun g3 => ?_)
    refine gX8_deepOf_42 (k_ones (by omega)) (zq_i (gX8_deepOf_46 (gX8_deepOf_50 ?_)))
    rw [nI_leI (by omega) (by omega)] at g3
    rw [show zs_dp a q (k + 1) = zpc k by rw [zs_dp, if_pos ⟨⟨zi_n0.mp g1, zi_n0.mp g2⟩, by omega⟩]] at next
    rw [nI_1]
    exact next
theorem k_deepOf_g {d : Nat} {a : zs_A} {v : zm_S} (h : zd_P a v) {q : Nat} (hq : q < 7) : zm_C zd_H (d + 6) mX8_deepOf [.ref 0, .int (nI q)] v (zp (.int (nI (zs_dp a q (2 ^ a.1 0 0)))) (fun u => zd_V a u ∧ ∀ k, 14 ≤ k → u.1 k = v.1 k)) := by
  refine zm_C.of mtX8_deepOf.1.2.2.2.2.2.2 rfl (Nat.le_of_ble_eq_true rfl) ?_
  refine gX8_deepOf_0 (k_findNeeds_g h) (zp_v (fun u hu => gX8_deepOf_4 ?_))
  refine zm_T.post (fun r z hz => ?_) (l_deep hu.1 hq (2 ^ a.1 0 0) 0 (by omega))
  obtain ⟨q1, rfl⟩ := hz
  exact ⟨q1, hu⟩
theorem k_deepOf {d : Nat} {a : zs_A} {v : zm_S} (h : zd_P a v) {q : Nat} (hq : q < 7) : zm_C zd_H (d + 6) mX8_deepOf [.ref 0, .int (nI q)] v (zp (.int (nI (zs_dp a q (2 ^ a.1 0 0)))) (zd_V a)) := (k_deepOf_g h hq).post (fun _ _ q => ⟨q.1, q.2.1⟩)
def zs_deep (a : zs_A) (q : Int32) : Int32 := if 0 ≤ q ∧ q < nI (a.1 0 0) then nI (zs_dp a q.toNatClampNeg (2 ^ a.1 0 0)) else -2
theorem m_deep {d : Nat} {a : zs_A} {v : zm_S} (h : zd_P a v) (q : Int32) : zm_C zd_H (d + 7) mX8_deep [.ref 0, .int q] v (zp (.int (zs_deep a q)) (zd_P a)) := by
  refine zm_C.of mtX8_deep.1.2.2.2.2.2.2 rfl (Nat.le_of_ble_eq_true rfl) ?_
  have hn := h.1.1
  refine gX8_deep_0 (k_isQuestion h q) (zq_i ?_)
  refine gX8_deep_5 (fun g => gX8_deep_16 (by rw [zs_deep, if_neg (zi_0.mp g)]; exact ⟨rfl, h⟩)) (fun g => ?_)
  have hG := zi_n0.mp g
  obtain ⟨q, hq, rfl⟩ := zx_of hG (by omega)
  refine gX8_deep_8 (k_deepOf h (by omega)) (zp_i (fun u hu => gX8_deep_13 ?_))
  rw [zs_deep, if_pos hG, zx_clamp (by omega)]
  exact ⟨rfl, hu.1⟩
