/-! ===== paths, deep ===== -/
theorem zs_full_k {a : zs_A} (h : zs_ok a) : ∀ k, k ≤ a.1 0 0 → zs_stk a (2 ^ a.1 0 0 - 1) k = true
  | 0, _ => rfl
  | k + 1, hk => by
    have hn := h.1
    rw [zs_stk, zs_full_k h k (by omega)]
    have : zs_nd a k &&& (127 ^^^ (2 ^ a.1 0 0 - 1)) = 0 := by
      apply Nat.eq_of_testBit_eq
      intro i
      rw [Nat.testBit_and, Nat.zero_testBit, zs_nd, zb_bit, Nat.testBit_xor, Nat.testBit_two_pow_sub_one, show 127 = 2 ^ 7 - 1 from rfl, Nat.testBit_two_pow_sub_one]
      by_cases c : i < a.1 0 0
      · have : i < 7 := by omega
        simp [c, this]
      · simp [c]
    rw [decide_eq_true this]
    simp
theorem zs_full {a : zs_A} (h : zs_ok a) : zs_st a (2 ^ a.1 0 0 - 1) = true := zs_full_k h _ (Nat.le_refl _)
theorem zs_wyt_s (a : zs_A) (k : Nat) : zs_wyt a (k + 1) k = zs_wys a (zs_wyt a k) k (a.1 0 0) := by
  rw [zs_wyt]
  exact if_pos rfl
theorem zs_wyt_0 {a : zs_A} {k j : Nat} (hj : j < k) (h0 : j ≠ 0) (hs : zs_st a j = false) : zs_wyt a k j = 0 := by
  induction k with
  | zero => omega
  | succ k ih =>
    by_cases c : j = k
    · subst c
      rw [zs_wyt_s, zs_wys, if_neg h0]
      have : ∀ m, fb_sm (fun q => if j.testBit q = true ∧ zs_st a j = true then zs_wyt a j (j ^^^ 2 ^ q) else 0) m = 0 := by
        intro m
        induction m with
        | zero => rfl
        | succ m ih2 => rw [fb_sm_succ, ih2, hs]; simp
      rw [this]
    · rw [zs_wyt_keep a k j (by omega)]
      exact ih (by omega)
theorem zs_wyt_at {a : zs_A} {k N : Nat} (h : k < N) : zs_wyt a N k = zs_wyt a (k + 1) k := by
  induction N with
  | zero => omega
  | succ N ih =>
    by_cases c : k = N
    · rw [c]
    · rw [zs_wyt_keep a N k (by omega)]
      exact ih (by omega)
/-- the ways, as far as they are counted -/
def zc_y (a : zs_A) (w u : zm_S) (k : Nat) : Prop := (∀ j, j ≠ 27 → u.1 j = w.1 j) ∧ u.2 = w.2 ∧ ∀ i, i < k → zs_st a i = true → u.1 27 i = nI (zs_wyt a (i + 1) i)
def zs_wp (a : zs_A) (k : Nat) : Nat → Nat := fb_sm (fun q => if k.testBit q = true ∧ zs_st a k = true then zs_wyt a k (k ^^^ 2 ^ q) else 0)
theorem l_ways2 {d : Nat} {a : zs_A} (ha : zs_ok a) {w : zm_S} (h : zc_b a w) {k : Nat} (hk : k < 2 ^ a.1 0 0) (hk0 : k ≠ 0) (hst : zs_st a k = true) {i : Int32} {Q : Value → zm_S → Prop} (hQ : ∀ u, zc_y a w u k → u.1 27 k = nI (zs_wp a k (a.1 0 0)) → zm_T zc_H d mX6_waysToAll Q 86 [(0, .ref 23), (1, .int i)] [] u) : ∀ (m q : Nat) (u : zm_S), q + m = a.1 0 0 → zc_y a w u k → u.1 27 k = nI (zs_wp a k q) → zm_T zc_H d mX6_waysToAll Q 42 [(0, .ref 23), (1, .int i), (2, .int (nI k)), (3, .int (nI (zb (fun q => zs_st a (k ^^^ 2 ^ q)) (a.1 0 0) &&& k))), (4, .int (nI q))] [] u := by
  intro m
  have hn := ha.1
  have hp := zn_pow ha
  induction m with
  | zero =>
    intro q u hq hy h27
    obtain rfl : q = a.1 0 0 := by omega
    exact gX6_waysToAll_42 (fun _ => hQ u hy h27) (fun z => absurd (by rw [hy.1 23 (by decide), h.1]; exact Int32.le_refl _) z)
  | succ m ih =>
    intro q u hq hy h27
    have hzb := zy_and_lt (y := k) (zb_lt7 (fun q => zs_st a (k ^^^ 2 ^ q)) (m := a.1 0 0) (by omega))
    have hx := zy_xor_lt2 hk (q := q) (by omega)
    have e : nI k ^^^ 1 <<< (nI q &&& 31) = nI (k ^^^ 2 ^ q) := by rw [zy_bit q (by omega), fb_xorI]
    have tb : (zb (fun q => zs_st a (k ^^^ 2 ^ q)) (a.1 0 0) &&& k).testBit q = (zs_st a (k ^^^ 2 ^ q) && k.testBit q) := by
      rw [Nat.testBit_and, zb_bit]
      have : q < a.1 0 0 := by omega
      simp [this]
    have es : zs_wp a k (q + 1) = zs_wp a k q + (if k.testBit q = true ∧ zs_st a k = true then zs_wyt a k (k ^^^ 2 ^ q) else 0) := fb_sm_succ _ _
    refine gX6_waysToAll_42 (fun z => absurd z (by rw [hy.1 23 (by decide), h.1]; exact nI_ge (by omega) (by omega))) (fun _ => ?_)
    refine gX6_waysToAll_51 (fun g => gX6_waysToAll_80 ?_) (fun g => ?_)
    · rw [zy_tb (by omega) (by omega), tb] at g
      rw [nI_1]
      refine ih (q + 1) u (by omega) hy ?_
      rw [h27, es]
      cases hb : k.testBit q
      · simp
      · rw [hb, Bool.and_true] at g
        have hlt := zy_xor_bit k (by omega) q (by omega) hb
        rw [if_pos ⟨rfl, hst⟩]
        by_cases z : k ^^^ 2 ^ q = 0
        · rw [z] at g
          rw [zs_st0] at g
          cases g
        · rw [zs_wyt_0 hlt z g, Nat.add_zero]
    · rw [zy_tb (by omega) (by omega), tb] at g
      have g' : zs_st a (k ^^^ 2 ^ q) = true ∧ k.testBit q = true := by simpa using g
      have hlt := zy_xor_bit k (by omega) q (by omega) g'.2
      have c1 : (nI k).toNatClampNeg = k := zx_clamp (by omega)
      refine gX6_waysToAll_60 (vp_in_nI (by omega) (by decide)) (by rw [e]; exact vp_in_nI (by omega) (by decide)) (vp_in_nI (by omega) (by decide)) (gX6_waysToAll_80 ?_)
      rw [nI_1, c1, e, zx_clamp (by omega), h27, hy.2.2 _ hlt g'.1, nI_add]
      refine ih (q + 1) _ (by omega) ⟨fun j hj => by rw [zm_pa_ne hj]; exact hy.1 j hj, hy.2.1, fun j hj hs => ?_⟩ ?_
      · rw [zm_pa_at, pk_un (by omega)]
        exact hy.2.2 j hj hs
      · rw [zm_pa_at, pk_us, es, if_pos ⟨g'.2, hst⟩, zs_wyt_at hlt]
theorem l_ways1 {d : Nat} {a : zs_A} (ha : zs_ok a) {w : zm_S} (h : zc_b a w) : ∀ (m k : Nat) (u : zm_S), k + m = 2 ^ a.1 0 0 → 0 < k → zc_y a w u k → zm_T zc_H (d + 1) mX6_waysToAll (zp (.int (zs_paths a)) (fun u => (∀ j, j ≠ 27 → u.1 j = w.1 j) ∧ u.2 = w.2)) 9 [(0, .ref 23), (1, .int (nI (zs_cnt a k)))] [] u := by
  intro m
  have hn := ha.1
  have hp := zn_pow ha
  have hcl := zs_cnt_le a (2 ^ a.1 0 0)
  obtain ⟨b5, b6, b7, b8⟩ := h
  induction m with
  | zero =>
    intro k u hk h0 hy
    obtain rfl : k = 2 ^ a.1 0 0 := by omega
    refine gX6_waysToAll_9 (fun _ => gX6_waysToAll_92 ?_ ?_) (fun q => absurd (by rw [hy.1 23 (by decide), b7]; exact Int32.le_refl _) q)
    · rw [hy.1 23 (by decide), b6]; exact vp_in_nI (by omega) (by decide)
    · rw [hy.1 23 (by decide), b6, zx_clamp (by omega), hy.2.2 _ (by omega) (zs_full ha), zs_paths, zs_wyt_at (N := 2 ^ a.1 0 0) (by omega)]
      exact ⟨rfl, hy.1, hy.2.1⟩
  | succ m ih =>
    intro k u hk h0 hy
    have hck := zs_cnt_le a k
    by_cases c : zs_st a k = true
    · have hlt := zs_cnt_lt (n := 2 ^ a.1 0 0) (by omega) c
      have e26 : u.1 26 (nI (zs_cnt a k)).toNatClampNeg = nI k := by rw [zx_clamp (by omega), hy.1 26 (by decide)]; exact (b8 k (by omega)).2 c
      have hb : zc_b a u := (show zc_b a w from ⟨b5, b6, b7, b8⟩).keep (fun j _ hj => hy.1 j (by omega))
      refine gX6_waysToAll_9 (fun q => absurd q (by rw [hy.1 23 (by decide), b7]; exact nI_ge (by omega) (by omega))) (fun _ => ?_)
      refine gX6_waysToAll_17 (vp_in_nI (by omega) (by decide)) (by rw [e26]; exact k_neighbours ha hb (by omega)) (zq_i ?_)
      rw [e26]
      refine gX6_waysToAll_29 (vp_in_nI (by omega) (by decide)) ?_
      rw [fa_and, zx_clamp (by omega)]
      refine l_ways2 (d := d + 1) ha (show zc_b a w from ⟨b5, b6, b7, b8⟩) (k := k) (by omega) (by omega) c (fun z hz hz27 => gX6_waysToAll_86 ?_) (a.1 0 0) 0 _ (by omega) ⟨fun j hj => by rw [zm_pa_ne hj]; exact hy.1 j hj, hy.2.1, fun j hj hs => by rw [zm_pa_at, pk_un (by omega)]; exact hy.2.2 j hj hs⟩ (by rw [zm_pa_at, pk_us]; rfl)
      have next := ih (k + 1) z (by omega) (by omega) ⟨hz.1, hz.2.1, fun i hi hs => ?_⟩
      · rw [zs_cnt_1, if_pos c] at next
        rw [nI_1]
        exact next
      · by_cases z2 : i = k
        · subst z2
          rw [hz27, zs_wyt_s, zs_wys, if_neg (by omega), Nat.zero_add]
          rfl
        · exact hz.2.2 i (by omega) hs
    · have next := ih (k + 1) u (by omega) (by omega) ⟨hy.1, hy.2.1, fun i hi hs => by
        by_cases z2 : i = k
        · rw [z2] at hs; exact absurd hs c
        · exact hy.2.2 i (by omega) hs⟩
      rw [zs_cnt_1, if_neg c] at next
      exact next
theorem c_paths {d : Nat} {a : zs_A} {w : zm_S} (h : zc_P a w) : zm_C zc_H (d + 4) mX7_paths [.ref 0] w (zp (.int (zs_paths a)) (zc_P a)) := by
  refine zm_C.of mtX7_paths.1.2.2.2.2.2.2 rfl (Nat.le_of_ble_eq_true rfl) ?_
  refine gX7_paths_0 (k_findStates h) (zp_v (fun u hu => ?_))
  obtain ⟨hQ, -, -⟩ := hu
  have ha := hQ.1.1.1
  have hp := zn_pow ha
  have hC : zm_C zc_H (d + 3) mX6_waysToAll [.ref 23] u (zp (.int (zs_paths a)) (fun z => (∀ j, j ≠ 27 → z.1 j = u.1 j) ∧ z.2 = u.2)) := by
    refine zm_C.of mtX6_waysToAll.1.2.2.2.2.2.2 rfl (Nat.le_of_ble_eq_true rfl) ?_
    refine gX6_waysToAll_0 (vp_in_nI (n := 0) (by decide) (by decide)) ?_
    have next := l_ways1 (d := d + 2) ha hQ.2.2.2 (2 ^ a.1 0 0 - 1) 1 (zm_pi u 27 0 1) (by omega) (by omega) ⟨fun j hj => zm_pa_ne hj, rfl, fun i hi hs => by
      obtain rfl : i = 0 := by omega
      rw [zm_pa_at, pk_us, show zs_wyt a (0 + 1) 0 = zs_wys a (zs_wyt a 0) 0 (a.1 0 0) from zs_wyt_s a 0, zs_wys, if_pos rfl]
      have : ∀ m, fb_sm (fun q => if Nat.testBit 0 q = true ∧ zs_st a 0 = true then zs_wyt a 0 (0 ^^^ 2 ^ q) else 0) m = 0 := by
        intro m
        induction m with
        | zero => rfl
        | succ m ih2 => rw [fb_sm_succ, ih2]; simp
      rw [this]
      rfl⟩
    rw [show zs_cnt a 1 = 1 by rw [zs_cnt_1, if_pos (zs_st0 a)]; rfl] at next
    exact next
  refine gX7_paths_4 hC (zp_i (fun z hz => gX7_paths_11 ⟨rfl, ?_⟩))
  exact (hQ.keep (fun k hk => hz.1 k (by omega)) hz.2).P
theorem zpc_full : ∀ n, n < 8 → zpc (2 ^ n - 1) = n := by decide +kernel
theorem zs_dp_min {a : zs_A} {q k : Nat} (hb : k.testBit q = true) (hs : zs_st a k = true) : ∀ m, zs_dp a q (k + 1 + m) ≤ zpc k
  | 0 => by
    rw [show k + 1 + 0 = k + 1 from rfl, zs_dp]
    split
    · exact Nat.le_refl _
    · rename_i c
      apply Decidable.byContradiction
      intro z
      exact c ⟨⟨hb, hs⟩, by omega⟩
  | m + 1 => by
    have := zs_dp_min hb hs m
    rw [← Nat.add_assoc, zs_dp]
    split <;> omega
theorem zs_dp_n {a : zs_A} (h : zs_ok a) {q : Nat} (hq : q < a.1 0 0) : zs_dp a q (2 ^ a.1 0 0) ≤ a.1 0 0 := by
  have hn := h.1
  have hp := zn_pow h
  have := zs_dp_min (a := a) (q := q) (k := 2 ^ a.1 0 0 - 1) (by rw [Nat.testBit_two_pow_sub_one]; exact decide_eq_true hq) (zs_full h) 0
  rw [zpc_full _ (by omega), show 2 ^ a.1 0 0 - 1 + 1 + 0 = 2 ^ a.1 0 0 by omega] at this
  exact this
theorem l_deepC {d : Nat} {a : zs_A} {w : zm_S} (h : zc_Q a w) {q : Nat} (hq : q < a.1 0 0) : ∀ (m k : Nat), k + m = 2 ^ a.1 0 0 → zm_T zc_H (d + 1) mX7_deep (zq (.int (nI (zs_dp a q (2 ^ a.1 0 0)))) w) 25 [(0, .ref 0), (1, .int (nI q)), (2, .int (nI (min (a.1 0 0) (zs_dp a q k)))), (3, .int (nI (zs_cnt a k)))] [] w := by
  intro m
  have ha := h.1.1.1
  have hn := ha.1
  have hp := zn_pow ha
  have hcl := zs_cnt_le a (2 ^ a.1 0 0)
  obtain ⟨b5, b6, b7, b8⟩ := h.2.2.2
  induction m with
  | zero =>
    intro k hk
    obtain rfl : k = 2 ^ a.1 0 0 := by omega
    refine gX7_deep_25 (fun _ => gX7_deep_75 ?_) (fun q => absurd (by rw [b7]; exact Int32.le_refl _) q)
    rw [Nat.min_eq_right (zs_dp_n ha hq)]
    exact zq_m _ _
  | succ m ih =>
    intro k hk
    have next := ih (k + 1) (by omega)
    have hck := zs_cnt_le a k
    have hz := zpc_le k
    by_cases c : zs_st a k = true
    · have hlt := zs_cnt_lt (n := 2 ^ a.1 0 0) (by omega) c
      have e26 : w.1 26 (nI (zs_cnt a k)).toNatClampNeg = nI k := by rw [zx_clamp (by omega)]; exact (b8 k (by omega)).2 c
      rw [zs_cnt_1, if_pos c] at next
      refine gX7_deep_25 (fun q => absurd q (by rw [b7]; exact nI_ge (by omega) (by omega))) (fun _ => ?_)
      refine gX7_deep_36 (vp_in_nI (by omega) (by decide)) (fun g => gX7_deep_69 ?_) (fun g => ?_)
      · rw [e26, zy_tb (by omega) (by omega)] at g
        rw [zs_dp, if_neg (fun z => by rw [g] at z; exact absurd z.1.1 (by decide))] at next
        rw [nI_1]
        exact next
      · rw [e26, zy_tb (by omega) (by omega)] at g
        have g1 : k.testBit q = true := by simpa using g
        refine gX7_deep_52 (vp_in_nI (by omega) (by decide)) (by rw [e26]; exact k_bitCount (by omega)) (zq_i (gX7_deep_65 (gX7_deep_69 ?_)))
        rw [nI_1]
        have e : (if nI (zpc k) < nI (min (a.1 0 0) (zs_dp a q k)) then nI (zpc k) else nI (min (a.1 0 0) (zs_dp a q k))) = nI (min (a.1 0 0) (zs_dp a q (k + 1))) := by
          have hm : min (a.1 0 0) (zs_dp a q k) ≤ 7 := Nat.le_trans (Nat.min_le_left _ _) (by omega)
          rw [zs_dp]
          split
          · rename_i z
            rw [nI_ltI (by omega) (by omega)] at z
            rw [if_pos ⟨⟨g1, c⟩, by omega⟩, Nat.min_eq_right (by omega)]
          · rename_i z
            rw [nI_ltI (by omega) (by omega)] at z
            split
            · congr 1; omega
            · rfl
        rw [e]
        exact next
    · rw [zs_cnt_1, if_neg c, zs_dp, if_neg (fun z => c z.1.2)] at next
      exact next
theorem k_isQuestionC {d : Nat} {a : zs_A} {w : zm_S} (h : zc_A a w) (q : Int32) : zm_C zc_H (d + 1) mX7_isQuestion [.ref 0, .int q] w (zq (.int (zi (0 ≤ q ∧ q < nI (a.1 0 0)))) w) := by
  refine zm_C.of mtX7_isQuestion.1.2.2.2.2.2.2 rfl (Nat.le_of_ble_eq_true rfl) ?_
  refine gX7_isQuestion_0 (k_within _ _) (zq_i ?_)
  rw [h.2.1]
  exact gX7_isQuestion_11 zi_and (zq_m _ _)
theorem c_deep {d : Nat} {a : zs_A} {w : zm_S} (h : zc_P a w) (q : Int32) : zm_C zc_H (d + 4) mX7_deep [.ref 0, .int q] w (zp (.int (zs_deep a q)) (zc_P a)) := by
  refine zm_C.of mtX7_deep.1.2.2.2.2.2.2 rfl (Nat.le_of_ble_eq_true rfl) ?_
  have hn := h.1.1.1.1
  refine gX7_deep_0 (k_isQuestionC h.1.1 q) (zq_i ?_)
  refine gX7_deep_5 (fun g => ?_) (fun g => gX7_deep_8 (by rw [zs_deep, if_neg (zi_0.mp g)]; exact ⟨rfl, h⟩))
  have hG := zi_n0.mp g
  obtain ⟨q, hq, rfl⟩ := zx_of hG (by omega)
  rw [zs_deep, if_pos hG, zx_clamp (by omega)]
  refine gX7_deep_11 (k_findStates h) (zp_v (fun u hu => gX7_deep_15 ?_))
  obtain ⟨hQ, -, -⟩ := hu
  rw [hQ.1.1.2.1]
  have next := l_deepC (d := d + 3) hQ hq (2 ^ a.1 0 0) 0 (by omega)
  rw [show zs_dp a q 0 = 10000 from rfl, Nat.min_eq_left (by omega)] at next
  exact zm_T.post (fun r z hz => ⟨hz.1, by rw [hz.2]; exact hQ.P⟩) next
