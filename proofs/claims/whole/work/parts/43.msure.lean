/-- loop 3: of a set of states, question by question -/
theorem zs_fv_pos {H f : Nat → Nat} {k : Nat} (hk : k &&& (k - 1) ≠ 0) : ∀ m, 0 < zs_fv H f k m
  | 0 => by rw [zs_fv, if_neg hk]; decide
  | m + 1 => by
    have := zs_fv_pos (H := H) (f := f) hk m
    have h2 : 0 < zs_by H f m k := by unfold zs_by; split <;> omega
    rw [zs_fv]
    omega
theorem zs_fv_zero {H f : Nat → Nat} {k : Nat} (hk : k &&& (k - 1) = 0) : ∀ m, zs_fv H f k m = 0
  | 0 => by rw [zs_fv, if_pos hk]
  | m + 1 => by rw [zs_fv, zs_fv_zero hk m, Nat.min_zero]
theorem l_sure5 {d : Nat} {a : zs_A} {H f : Nat → Nat} (hf : ∀ j, f j ≤ 10000) {k : Nat} (hk0 : 0 < k) (hk1 : k < 16384) {w c al : Int32} {Q : Value → zm_S → Prop} (hk : ∀ u, zd_V a u → (∀ q, q < a.1 0 0 → u.1 19 q = nI (H q)) → (∀ j, 0 < j → j < k → u.1 20 j = nI (f j)) → u.1 20 k = nI (zs_fv H f k (a.1 0 0)) → zm_T zd_H (d + 1) mX8_sureOf Q 278 [(0, .ref 0), (3, .int w), (4, .int c), (5, .int al), (6, .int (nI k))] [] u) : ∀ (m q : Nat) (v : zm_S), zd_V a v → q + m = a.1 0 0 → (∀ q, q < a.1 0 0 → v.1 19 q = nI (H q)) → (∀ j, 0 < j → j < k → v.1 20 j = nI (f j)) → v.1 20 k = nI (zs_fv H f k q) → zm_T zd_H (d + 1) mX8_sureOf Q 212 [(0, .ref 0), (3, .int w), (4, .int c), (5, .int al), (6, .int (nI k)), (7, .int (nI q))] [] v := by
  intro m
  induction m with
  | zero =>
    intro q v h hqm h1 h2 h3
    obtain rfl : q = a.1 0 0 := by omega
    refine gX8_sureOf_212 (k_n h.1) (zq_i ?_)
    exact gX8_sureOf_218 (fun _ => hk v h h1 h2 h3) (fun z => absurd (Int32.le_refl _) z)
  | succ m ih =>
    intro q v h hqm h1 h2 h3
    have hn := h.1.1.1
    have hin : vp_in (nI k) 16384 := vp_in_nI hk1 (by decide)
    have hck : (nI k).toNatClampNeg = k := zx_clamp (by omega)
    have hle := zs_fv_le H f k q
    have hby := zs_by_le (H := H) hf q k
    refine gX8_sureOf_212 (k_n h.1) (zq_i ?_)
    refine gX8_sureOf_218 (fun z => absurd z (nI_ge (by omega) (by omega))) (fun _ => ?_)
    refine gX8_sureOf_221 hin (fun g => ?_) (fun g => ?_)
    · rw [hck, h3, show (0 : Int32) = nI 0 from rfl, nI_leI (by omega) (by decide)] at g
      refine hk v h h1 h2 ?_
      have hz : k &&& (k - 1) = 0 := Decidable.byContradiction (fun z => by have := zs_fv_pos (H := H) (f := f) z q; omega)
      rw [h3, zs_fv_zero hz, zs_fv_zero hz]
    · refine gX8_sureOf_231 (k_byAsking (H := H) (f := f) (by omega) hk1 (h1 q (by omega)) hf (fun j j0 _ jk jn => h2 j j0 (by
        have : j ≤ k := by rw [← jk]; exact Nat.and_le_right
        omega))) (zq_i ?_)
      have fin : ∀ z, nI (zs_fv H f k (q + 1)) = z → zm_T zd_H (d + 1) mX8_sureOf Q 212 [(0, .ref 0), (3, .int w), (4, .int c), (5, .int al), (6, .int (nI k)), (7, .int (nI q + 1))] [] (zm_pi v 20 (nI k).toNatClampNeg z) := by
        intro z hz
        rw [hck, nI_1, ← hz]
        exact ih (q + 1) _ (h.pa (by omega) _) (by omega) (fun j hj => by rw [zm_pa_ne (by decide)]; exact h1 j hj) (fun j j0 hj => by rw [zm_pa_at, pk_un (by omega)]; exact h2 j j0 hj) (by rw [zm_pa_at, pk_us])
      refine gX8_sureOf_239 hin (fun g2 => gX8_sureOf_264 hin (gX8_sureOf_271 hin (fin _ ?_))) (fun g2 => gX8_sureOf_259 (gX8_sureOf_271 hin (fin _ ?_)))
      · rw [hck, h3, nI_leI (by omega) (by omega)] at g2
        rw [hck, h3, zs_fv, Nat.min_eq_right g2]
      · rw [hck, h3, nI_leI (by omega) (by omega)] at g2
        rw [zs_fv, Nat.min_eq_left (by omega)]
theorem zs_ft_keep (n : Nat) (H : Nat → Nat) (k j : Nat) (h : j < k) : zs_ft n H (k + 1) j = zs_ft n H k j := by
  rw [zs_ft]
  simp only
  rw [if_neg (by omega)]
theorem l_sure4 {d : Nat} {a : zs_A} {H : Nat → Nat} {c : Nat} (hc0 : 0 < c) (hc : c ≤ 14) {w : Int32} {Q : Value → zm_S → Prop} (hk : ∀ u, zd_V a u → (∀ q, q < a.1 0 0 → u.1 19 q = nI (H q)) → (∀ j, 0 < j → j < 2 ^ c → u.1 20 j = nI (zs_ft (a.1 0 0) H (2 ^ c) j)) → zm_T zd_H (d + 1) mX8_sureOf Q 284 [(0, .ref 0), (3, .int w), (4, .int (nI c)), (5, .int (nI (2 ^ c - 1)))] [] u) : ∀ (m k : Nat) (v : zm_S), zd_V a v → 0 < k → k + m = 2 ^ c → (∀ q, q < a.1 0 0 → v.1 19 q = nI (H q)) → (∀ j, 0 < j → j < k → v.1 20 j = nI (zs_ft (a.1 0 0) H k j)) → zm_T zd_H (d + 1) mX8_sureOf Q 178 [(0, .ref 0), (3, .int w), (4, .int (nI c)), (5, .int (nI (2 ^ c - 1))), (6, .int (nI k))] [] v := by
  have hp : 2 ^ c ≤ 16384 := Nat.pow_le_pow_right (n := 2) (j := 14) (by decide) hc
  intro m
  induction m with
  | zero =>
    intro k v h hk0 hkm h1 h2
    obtain rfl : k = 2 ^ c := by omega
    exact gX8_sureOf_178 (fun _ => hk v h h1 h2) (fun z => absurd (nI_lt (by omega) (by omega)) z)
  | succ m ih =>
    intro k v h hk0 hkm h1 h2
    have hin : vp_in (nI k) 16384 := vp_in_nI (by omega) (by decide)
    have hck : (nI k).toNatClampNeg = k := zx_clamp (by omega)
    have hkk : k &&& (k - 1) < 16384 := Nat.lt_of_le_of_lt Nat.and_le_left (by omega)
    have e : (nI k &&& (nI k - 1) = 0) ↔ k &&& (k - 1) = 0 := by
      rw [show nI k - 1 = nI (k - 1) from pk_sub (b := 1) (by omega), fa_and]
      exact nI_eq (b := 0) (by omega) (by decide)
    have go : ∀ z, nI (zs_fv H (zs_ft (a.1 0 0) H k) k 0) = z → zm_T zd_H (d + 1) mX8_sureOf Q 208 [(0, .ref 0), (3, .int w), (4, .int (nI c)), (5, .int (nI (2 ^ c - 1))), (6, .int (nI k))] [.int z, .int (nI k), .ref 20] v := by
      intro z hz
      refine gX8_sureOf_208 hin ?_
      rw [hck, ← hz]
      refine l_sure5 (H := H) (f := zs_ft (a.1 0 0) H k) (zs_ft_le _ _ _) hk0 (by omega) (fun u hu g1 g2 g3 => gX8_sureOf_278 ?_) (a.1 0 0) 0 _ (h.pa (by omega) _) (by omega) (fun j hj => by rw [zm_pa_ne (by decide)]; exact h1 j hj) (fun j j0 hj => by rw [zm_pa_at, pk_un (by omega)]; exact h2 j j0 hj) (by rw [zm_pa_at, pk_us])
      rw [nI_1]
      refine ih (k + 1) u hu (by omega) (by omega) g1 (fun j j0 hj => ?_)
      by_cases y : j = k
      · rw [y, g3, zs_ft]
        simp
      · rw [zs_ft_keep _ _ _ _ (by omega)]
        exact g2 j j0 (by omega)
    refine gX8_sureOf_178 (fun z => absurd z (nI_nlt (by omega) (by omega))) (fun _ => ?_)
    refine gX8_sureOf_185 (fun g => gX8_sureOf_205 (go _ ?_)) (fun g => gX8_sureOf_201 (go _ ?_))
    · rw [e] at g
      rw [zs_fv, if_neg g]
      rfl
    · rw [e] at g
      rw [zs_fv, if_pos g]
      rfl
theorem zs_hs_lt (M : Nat → Nat) {c : Nat} (hc : c ≤ 14) (q : Nat) : zs_hs M c q < 16384 := Nat.lt_of_lt_of_le (zb_lt _ c) (Nat.pow_le_pow_right (n := 2) (j := 14) (by decide) hc)
/-- loop 4: the first question -/
theorem l_sure6 {d : Nat} {a : zs_A} {v : zm_S} (h : zd_V a v) {H f : Nat → Nat} {c : Nat} (hc1 : 1 < c) (hc : c ≤ 14) (h1 : ∀ q, q < a.1 0 0 → v.1 19 q = nI (H q)) (hf : ∀ j, f j ≤ 10000) (h2 : ∀ j, 0 < j → j < 2 ^ c → v.1 20 j = nI (f j)) : ∀ (m q : Nat), q + m = a.1 0 0 → zm_T zd_H (d + 1) mX8_sureOf (zp (.int (zs_fst H f (2 ^ c - 1) (a.1 0 0) m q)) (zd_V a)) 299 [(0, .ref 0), (4, .int (nI c)), (5, .int (nI (2 ^ c - 1))), (6, .int (nI q))] [] v := by
  have hp : 2 ^ c ≤ 16384 := Nat.pow_le_pow_right (n := 2) (j := 14) (by decide) hc
  have hp2 : 2 ≤ 2 ^ c := Nat.pow_le_pow_right (n := 2) (i := 1) (by decide) (by omega)
  have hn := h.1.1.1
  intro m
  induction m with
  | zero =>
    intro q hq
    refine gX8_sureOf_299 (k_n h.1) (zq_i ?_)
    exact gX8_sureOf_305 (fun _ => gX8_sureOf_341 ⟨rfl, h⟩) (fun z => absurd (nI_le (by omega) (by omega)) z)
  | succ m ih =>
    intro q hq
    have hby := zs_by_le (H := H) hf q (2 ^ c - 1)
    have hfa := hf (2 ^ c - 1)
    refine gX8_sureOf_299 (k_n h.1) (zq_i ?_)
    refine gX8_sureOf_305 (fun z => absurd z (nI_ge (by omega) (by omega))) (fun _ => ?_)
    refine gX8_sureOf_308 (fun z => absurd z (nI_ge (a := 1) (by omega) (by omega))) (fun _ => ?_)
    refine gX8_sureOf_314 (k_byAsking (H := H) (f := f) (by omega) (by omega) (h1 q (by omega)) hf (fun j j0 _ jk jn => h2 j j0 (by
        have : j ≤ 2 ^ c - 1 := by rw [← jk]; exact Nat.and_le_right
        omega))) (zq_i ?_)
    have e : v.1 20 (nI (2 ^ c - 1)).toNatClampNeg = nI (f (2 ^ c - 1)) := by rw [zx_clamp (by omega)]; exact h2 _ (by omega) (by omega)
    refine gX8_sureOf_322 (vp_in_nI (by omega) (by decide)) (fun g => gX8_sureOf_335 ?_) (fun g => gX8_sureOf_332 ?_)
    · rw [e, nI_eq (by omega) (by omega)] at g
      rw [zs_fst, if_neg g, nI_1]
      exact ih (q + 1) (by omega)
    · rw [e, nI_eq (by omega) (by omega)] at g
      rw [zs_fst, if_pos g]
      exact ⟨rfl, h⟩
theorem zy_whole14 : ∀ c, c < 15 → ((1 : Int32) <<< (nI c &&& 31)) - 1 = nI (2 ^ c - 1) := by decide
theorem k_sureOf {d : Nat} {a : zs_A} {v : zm_S} (h : zd_P a v) {w1 w2 w : Nat} (hw1 : w1 < 128) (hw2 : w2 < 128) (hw : w < 2) : zm_C zd_H (d + 6) mX8_sureOf [.ref 0, .int (nI w1), .int (nI w2), .int (nI w)] v (zp (.int (zs_sureN a w1 w2 w)) (zd_V a)) := by
  refine zm_C.of mtX8_sureOf.1.2.2.2.2.2.2 rfl (Nat.le_of_ble_eq_true rfl) ?_
  have hp := zn_pow h.1
  have hpl := zs_pn_le a w1 w2 (2 ^ a.1 0 0)
  refine gX8_sureOf_0 (k_findNeeds h) (zp_v (fun u hu => gX8_sureOf_4 ?_))
  refine l_sure1 hw1 hw2 (fun u hu g => ?_) (2 ^ a.1 0 0) 0 u hu (by omega) (fun j hj => absurd hj (by rw [show zs_pn a w1 w2 0 = 0 from rfl]; omega))
  rw [zs_sureN]
  generalize hcc : zs_pn a w1 w2 (2 ^ a.1 0 0) = c at hpl g ⊢
  generalize hMM : zs_my a w1 w2 (2 ^ a.1 0 0) = M at g ⊢
  have hM : ∀ j, M j < 128 := fun j => by rw [← hMM]; exact zs_my_lt a w1 w2 _ j hp.2
  refine gX8_sureOf_74 (fun g1 => ?_) (fun g1 => gX8_sureOf_79 ?_)
  rotate_left
  · rw [if_pos ((nI_eq (b := 0) (by omega) (by decide)).mp g1)]
    exact ⟨rfl, hu⟩
  have hc0 : c ≠ 0 := fun z => g1 (by rw [z]; rfl)
  rw [if_neg hc0]
  refine gX8_sureOf_82 (fun g2 => ?_) (fun g2 => gX8_sureOf_89 ?_)
  rotate_left
  · rw [show (14 : Int32) = nI 14 from rfl, nI_leI (by omega) (by decide)] at g2
    rw [if_pos (by omega)]
    exact ⟨rfl, hu⟩
  rw [show (14 : Int32) = nI 14 from rfl, nI_leI (by omega) (by decide)] at g2
  rw [if_neg (by omega)]
  refine gX8_sureOf_92 ?_
  refine l_sure2 hM g2 (fun z hz z1 => gX8_sureOf_167 ?_) (a.1 0 0) 0 u hu (by omega) (fun j hj => g j hj (by omega)) (fun j hj => absurd hj (Nat.not_lt_zero j))
  rw [zy_whole14 c (by omega), show (1 : Int32) = nI 1 from rfl]
  have hpc2 : 2 ≤ 2 ^ c := Nat.pow_le_pow_right (n := 2) (i := 1) (by decide) (by omega)
  have hpc : 2 ^ c ≤ 16384 := Nat.pow_le_pow_right (n := 2) (j := 14) (by decide) g2
  refine l_sure4 (H := zs_hs M c) (by omega) g2 (fun y hy y1 y2 => ?_) (2 ^ c - 1) 1 z hz (by omega) (by omega) z1 (fun j j0 hj => by omega)
  refine gX8_sureOf_284 (fun g3 => gX8_sureOf_296 ?_) (fun g3 => gX8_sureOf_288 (vp_in_nI (by omega) (by decide)) ?_)
  · rw [if_neg (fun q => g3 (by rw [q]; rfl))]
    by_cases c1 : c ≤ 1
    · rw [if_pos c1]
      refine gX8_sureOf_299 (k_n hy.1) (zq_i ?_)
      have hn := h.1.1
      refine gX8_sureOf_305 (fun q => absurd q (by rw [show (0 : Int32) = nI 0 from rfl]; exact nI_ge (by omega) (by omega))) (fun _ => ?_)
      exact gX8_sureOf_308 (fun _ => gX8_sureOf_341 ⟨rfl, hy⟩) (fun q => absurd (nI_le (b := 1) c1 (by decide)) q)
    · rw [if_neg c1]
      exact l_sure6 hy (by omega) g2 y1 (zs_ft_le _ _ _) y2 (a.1 0 0) 0 (by omega)
  · rw [if_pos ((nI_eq (b := 0) (by omega) (by decide)).mp g3), zx_clamp (by omega), y2 _ (by omega) (by omega)]
    exact ⟨rfl, hy⟩
def zs_sure (a : zs_A) (w1 w2 w : Int32) : Int32 := if (0 ≤ w1 ∧ w1 < 128) ∧ (0 ≤ w2 ∧ w2 < 128) ∧ 0 ≤ w ∧ w < 2 then zs_sureN a w1.toNatClampNeg w2.toNatClampNeg w.toNatClampNeg else -2
theorem m_sure {d : Nat} {a : zs_A} {v : zm_S} (h : zd_P a v) (w1 w2 w : Int32) : zm_C zd_H (d + 7) mX8_sure [.ref 0, .int w1, .int w2, .int w] v (zp (.int (zs_sure a w1 w2 w)) (zd_P a)) := by
  refine zm_C.of mtX8_sure.1.2.2.2.2.2.2 rfl (Nat.le_of_ble_eq_true rfl) ?_
  have bad : ∀ (hb : ¬ ((0 ≤ w1 ∧ w1 < 128) ∧ (0 ≤ w2 ∧ w2 < 128) ∧ 0 ≤ w ∧ w < 2)), zm_T zd_H (d + 7) mX8_sure (zp (.int (zs_sure a w1 w2 w)) (zd_P a)) 41 [] [] v := fun hb => gX8_sure_41 (by rw [zs_sure, if_neg hb]; exact ⟨rfl, h⟩)
  refine gX8_sure_0 (k_in127 w1) (zq_i ?_)
  refine gX8_sure_9 (fun g => bad (fun c => zi_0.mp g c.1)) (fun g1 => ?_)
  refine gX8_sure_12 (k_in127 w2) (zq_i ?_)
  refine gX8_sure_21 (fun g => bad (fun c => zi_0.mp g c.2.1)) (fun g2 => ?_)
  refine gX8_sure_24 (k_isTwo2 w) (zq_i ?_)
  refine gX8_sure_28 (fun g => bad (fun c => zi_0.mp g c.2.2)) (fun g3 => ?_)
  have hG := And.intro (zi_n0.mp g1) (And.intro (zi_n0.mp g2) (zi_n0.mp g3))
  obtain ⟨w1, h1, rfl⟩ := zx_of (n := 128) hG.1 (by decide)
  obtain ⟨w2, h2, rfl⟩ := zx_of (n := 128) hG.2.1 (by decide)
  obtain ⟨w, h3, rfl⟩ := zx_of (n := 2) hG.2.2 (by decide)
  refine gX8_sure_31 (k_sureOf h h1 h2 h3) (zp_i (fun u hu => gX8_sure_38 ?_))
  rw [zs_sure, if_pos hG, zx_clamp (by omega), zx_clamp (by omega), zx_clamp (by omega)]
  exact ⟨rfl, hu.1⟩
