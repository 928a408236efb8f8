/-! ===== the class's state ===== -/
def zc_4 (a : zs_A) (w : zm_S) : Prop := ∀ s, s < 4 → w.1 (40 + 2 * s) 1 = zi (a.1 8 s = 0) ∧ w.1 (40 + 2 * s) 3 = nI (a.1 9 s) ∧ (a.1 8 s ≠ 0 → w.1 (40 + 2 * s) 2 = nI (a.1 8 s - 1) ∧ ∀ i, i < a.1 9 s → w.1 (41 + 2 * s) i = a.2 s i)
def zc_0 (a : zs_A) (w : zm_S) : Prop := zc_A a w ∧ zc_2 a w ∧ w.1 2 11 = nI (a.1 0 1) ∧ (∀ i, i < 4 → w.1 1 i = nI (a.1 0 i)) ∧ w.1 0 8 = nI (a.1 10 0) ∧ zc_T a w ∧ zc_4 a w
/-- the states, gathered -/
def zc_b (a : zs_A) (w : zm_S) : Prop := w.1 23 5 = nI (a.1 0 0) ∧ w.1 23 6 = nI (2 ^ a.1 0 0 - 1) ∧ w.1 23 7 = nI (zs_cnt a (2 ^ a.1 0 0)) ∧ ∀ k, k < 2 ^ a.1 0 0 → w.1 25 k = zi (zs_st a k = true) ∧ (zs_st a k = true → w.1 26 (zs_cnt a k) = nI k)
def zc_B (a : zs_A) (w : zm_S) : Prop := w.1 23 4 = 0 ∨ (w.1 23 4 = 1 ∧ zc_b a w)
/-- one answer of each pupil, in lanes -/
def zw_l (a : zs_A) (x q : Nat) : Nat := fb_sm (fun p => if zs_S a p q = x then 16 ^ p else 0) 12
def zc_r (a : zs_A) (w : zm_S) : Prop := w.1 15 8 = 0 ∧ w.1 15 9 = nI (a.1 0 0) ∧ w.1 15 10 = nI (2 ^ a.1 0 0 - 1) ∧ w.1 15 14 = nI (zs_best a none none).1 ∧ w.1 15 15 = nI (zs_best a none none).2.1 ∧ (∀ j, j < a.1 0 0 → w.1 21 j = nI ((zs_best a none none).2.2.getD j 0)) ∧ (∀ q, q < a.1 0 0 → ∀ h, h < 2 → w.1 22 (7 * h + q) = -1 ∨ w.1 22 (7 * h + q) = nI (zs_wo a q h)) ∧ ∀ q, q < a.1 0 0 → w.2 16 q = lN (zw_l a 1 q) ∧ w.2 17 q = lN (zw_l a 0 q)
def zc_R (a : zs_A) (w : zm_S) : Prop := w.1 15 7 = 0 ∨ (w.1 15 7 = 1 ∧ zc_r a w)
def zc_P (a : zs_A) (w : zm_S) : Prop := zc_0 a w ∧ zc_R a w ∧ zc_B a w
def zc_Q (a : zs_A) (w : zm_S) : Prop := zc_0 a w ∧ zc_R a w ∧ w.1 23 4 = 1 ∧ zc_b a w
theorem zc_Q.P {a : zs_A} {w : zm_S} (h : zc_Q a w) : zc_P a w := ⟨h.1, h.2.1, Or.inr h.2.2⟩
theorem zc_F.keep {f : Nat → Nat → Nat} {w u : zm_S} (h : zc_F f w) (e : ∀ k, k < 15 → u.1 k = w.1 k) : zc_F f u := by
  unfold zc_F
  rw [e 7 (by decide), e 8 (by decide), e 9 (by decide), e 10 (by decide)]
  exact h
theorem zc_A.keep {a : zs_A} {w u : zm_S} (h : zc_A a w) (e : ∀ k, k < 15 → u.1 k = w.1 k) : zc_A a u := ⟨h.1, by rw [e 2 (by decide)]; exact h.2.1, by rw [e 2 (by decide)]; exact h.2.2.1, h.2.2.2.keep e⟩
theorem zc_T.keep {a : zs_A} {w u : zm_S} (h : zc_T a w) (e : ∀ k, 11 ≤ k → k < 14 → u.1 k = w.1 k) : zc_T a u := by
  unfold zc_T zc_X
  rw [e 11 (by decide) (by decide), e 12 (by decide) (by decide), e 13 (by decide) (by decide)]
  exact h
theorem zc_2.keep {a : zs_A} {w u : zm_S} (h : zc_2 a w) (e : ∀ k, 2 ≤ k → k < 7 → u.1 k = w.1 k) : zc_2 a u := by
  unfold zc_2
  rw [e 2 (by decide) (by decide), e 3 (by decide) (by decide), e 4 (by decide) (by decide), e 5 (by decide) (by decide), e 6 (by decide) (by decide)]
  exact h
theorem zc_4.keep {a : zs_A} {w u : zm_S} (h : zc_4 a w) (e : ∀ k, 39 ≤ k → u.1 k = w.1 k) : zc_4 a u := by
  intro s hs
  rw [e (40 + 2 * s) (by omega), e (41 + 2 * s) (by omega)]
  exact h s hs
theorem zc_0.keep {a : zs_A} {w u : zm_S} (h : zc_0 a w) (e : ∀ k, k < 15 ∨ 38 < k → u.1 k = w.1 k) : zc_0 a u := by
  obtain ⟨h1, h2, h3, h4, h5, h6, h7⟩ := h
  exact ⟨h1.keep (fun k hk => e k (Or.inl hk)), h2.keep (fun k _ hk => e k (by omega)), by rw [e 2 (by decide)]; exact h3, by rw [e 1 (by decide)]; exact h4, by rw [e 0 (by decide)]; exact h5, h6.keep (fun k _ hk => e k (by omega)), h7.keep (fun k hk => e k (by omega))⟩
theorem zc_R.keep {a : zs_A} {w u : zm_S} (h : zc_R a w) (e : ∀ k, 15 ≤ k → k < 23 → u.1 k = w.1 k) (e2 : u.2 = w.2) : zc_R a u := by
  unfold zc_R zc_r
  rw [e 15 (by decide) (by decide), e 21 (by decide) (by decide), e 22 (by decide) (by decide), e2]
  exact h
theorem zc_b.keep {a : zs_A} {w u : zm_S} (h : zc_b a w) (e : ∀ k, 23 ≤ k → k < 27 → u.1 k = w.1 k) : zc_b a u := by
  unfold zc_b
  rw [e 23 (by decide) (by decide), e 25 (by decide) (by decide), e 26 (by decide) (by decide)]
  exact h
theorem zc_B.keep {a : zs_A} {w u : zm_S} (h : zc_B a w) (e : ∀ k, 23 ≤ k → k < 27 → u.1 k = w.1 k) : zc_B a u := by
  rcases h with h | h
  · exact Or.inl (by rw [e 23 (by decide) (by decide)]; exact h)
  · exact Or.inr ⟨by rw [e 23 (by decide) (by decide)]; exact h.1, h.2.keep e⟩
theorem zc_Q.keep {a : zs_A} {w u : zm_S} (h : zc_Q a w) (e : ∀ k, k < 27 ∨ 38 < k → u.1 k = w.1 k) (e2 : u.2 = w.2) : zc_Q a u := ⟨h.1.keep (fun k hk => e k (by omega)), h.2.1.keep (fun k _ hk => e k (by omega)) e2, by rw [e 23 (by decide)]; exact h.2.2.1, h.2.2.2.keep (fun k _ hk => e k (by omega))⟩
/-! what each question needs, as the class has it -/
def zs_cn (a : zs_A) (w q : Nat) : Nat := if w = 1 then zb (fun x => zs_need a 1 x q) (a.1 0 0) else zs_tn a q &&& (2 ^ a.1 0 0 - 1)
theorem zs_cn_lt {a : zs_A} (h : zs_ok a) (w : Nat) {q : Nat} (hq : q < 7) : zs_cn a w q < 128 := by
  unfold zs_cn
  split
  · exact zb_lt7 _ h.1.2.1
  · exact zy_and_lt (zs_tn_lt a q hq)
theorem k_needsOf {d : Nat} {a : zs_A} {w : zm_S} (h : zc_0 a w) {q x : Nat} (hq : q < a.1 0 0) (hx : x < 2) : zm_C zc_H (d + 2) mX7_needsOf [.ref 0, .int (nI q), .int (nI x)] w (zq (.int (nI (zs_cn a x q))) w) := by
  refine zm_C.of mtX7_needsOf.1.2.2.2.2.2.2 rfl (Nat.le_of_ble_eq_true rfl) ?_
  have hn := h.1.1.1
  refine gX7_needsOf_0 (fun g => gX7_needsOf_20 (vp_in_nI (by omega) (by decide)) ?_) (fun g => ?_)
  · rw [zx_clamp (by omega), h.2.2.2.2.2.1.2.2.2 q (by omega), h.1.2.2.1, fa_and, zs_cn, if_neg (fun e => g (by rw [e]; rfl))]
    exact zq_m _ _
  · refine gX7_needsOf_5 zx_in2 (by rw [show (2 : Int32).toNatClampNeg = 2 from rfl, h.2.2.2.1 2 (by decide)]; exact k_foundFor h.1 (by omega)) (zq_i (gX7_needsOf_19 ?_))
    rw [zs_cn, if_pos ((nI_eq (b := 1) (by omega) (by decide)).mp g)]
    exact zq_m _ _
theorem zs_cn_nd {a : zs_A} (h : zs_ok a) {q s : Nat} (hq : q < a.1 0 0) (hs : s.testBit q = true) : zs_cn a (a.1 0 3) q &&& (127 ^^^ s) = zs_nd a q &&& (127 ^^^ s) := by
  have hn := h.1
  unfold zs_cn zs_nd
  split
  · rename_i c
    rw [c]
  · rename_i c
    apply Nat.eq_of_testBit_eq
    intro i
    rw [Nat.testBit_and, Nat.testBit_and, Nat.testBit_and, zb_bit, Nat.testBit_two_pow_sub_one, Nat.testBit_xor]
    by_cases z : i = q
    · rw [z, hs, show (127 : Nat).testBit q = true by rw [show 127 = 2 ^ 7 - 1 from rfl, Nat.testBit_two_pow_sub_one]; exact decide_eq_true (by omega)]
      simp
    · unfold zs_need
      have z0 : a.1 0 3 = 0 := by omega
      simp [z, z0, Bool.and_comm]
theorem zs_stk_false {a : zs_A} {s k : Nat} (h : zs_stk a s k = false) : ∀ m, zs_stk a s (k + m) = false
  | 0 => h
  | m + 1 => by rw [← Nat.add_assoc, zs_stk, zs_stk_false h m, Bool.false_and]
theorem l_holdsNeeds {d : Nat} {a : zs_A} (ha : zs_ok a) {w : zm_S} (h5 : w.1 23 5 = nI (a.1 0 0)) (h24 : ∀ q, q < a.1 0 0 → w.1 24 q = nI (zs_cn a (a.1 0 3) q)) {s : Nat} (hs : s < 128) : ∀ (m k : Nat), k + m = a.1 0 0 → zs_stk a s k = true → zm_T zc_H d mX6_holdsNeeds (zq (.int (zi (zs_st a s = true))) w) 2 [(0, .ref 23), (1, .int (nI s)), (2, .int (nI k))] [] w := by
  intro m
  have hn := ha.1
  induction m with
  | zero =>
    intro k hk hst
    obtain rfl : k = a.1 0 0 := by omega
    refine gX6_holdsNeeds_2 (fun _ => gX6_holdsNeeds_39 ?_) (fun q => absurd (by rw [h5]; exact Int32.le_refl _) q)
    rw [zi_t (c := zs_st a s = true) hst]; exact zq_m _ _
  | succ m ih =>
    intro k hk hst
    have hc := zs_cn_lt ha (a.1 0 3) (q := k) (by omega)
    have yes : zs_stk a s (k + 1) = true → zm_T zc_H d mX6_holdsNeeds (zq (.int (zi (zs_st a s = true))) w) 33 [(0, .ref 23), (1, .int (nI s)), (2, .int (nI k))] [] w := fun c => gX6_holdsNeeds_33 (by rw [nI_1]; exact ih (k + 1) (by omega) c)
    refine gX6_holdsNeeds_2 (fun q => absurd q (by rw [h5]; exact nI_ge (by omega) (by omega))) (fun _ => ?_)
    refine gX6_holdsNeeds_10 (fun g => yes ?_) (fun g => ?_)
    · rw [zy_tb (by omega) (by omega)] at g
      rw [zs_stk, hst, g]; rfl
    · rw [zy_tb (by omega) (by omega)] at g
      have g1 : s.testBit k = true := by simpa using g
      have e := zs_cn_nd ha (q := k) (by omega) g1
      have hl := zy_and_lt (y := 127 ^^^ s) hc
      refine gX6_holdsNeeds_18 (vp_in_nI (by omega) (by decide)) (fun g2 => yes ?_) (fun g2 => gX6_holdsNeeds_31 ?_)
      · rw [zx_clamp (by omega), h24 k (by omega), zy_not hc hs, show (0 : Int32) = nI 0 from rfl, nI_eq (by omega) (by decide), e] at g2
        rw [zs_stk, hst, g1, decide_eq_true g2]; rfl
      · rw [zx_clamp (by omega), h24 k (by omega), zy_not hc hs, show (0 : Int32) = nI 0 from rfl, nI_eq (by omega) (by decide), e] at g2
        rw [zi_f]; exact zq_m _ _
        have := zs_stk_false (a := a) (s := s) (k := k + 1) (by rw [zs_stk, hst, g1, decide_eq_false g2]; rfl) m
        rw [show k + 1 + m = a.1 0 0 by omega] at this
        unfold zs_st
        rw [this]
        decide
theorem k_holdsNeeds {d : Nat} {a : zs_A} (ha : zs_ok a) {w : zm_S} (h5 : w.1 23 5 = nI (a.1 0 0)) (h24 : ∀ q, q < a.1 0 0 → w.1 24 q = nI (zs_cn a (a.1 0 3) q)) {s : Nat} (hs : s < 128) : zm_C zc_H d mX6_holdsNeeds [.ref 23, .int (nI s)] w (zq (.int (zi (zs_st a s = true))) w) := by
  refine zm_C.of mtX6_holdsNeeds.1.2.2.2.2.2.2 rfl (Nat.le_of_ble_eq_true rfl) ?_
  exact gX6_holdsNeeds_0 (l_holdsNeeds ha h5 h24 hs (a.1 0 0) 0 (by omega) rfl)
theorem zx_nz {c : Prop} [Decidable c] : vp_nar .boolean (zi c) = zi c := by
  unfold zi
  split <;> decide
theorem zs_cnt_le (a : zs_A) (k : Nat) : zs_cnt a k ≤ k := fb_ct_le _ _
theorem zs_cnt_mono (a : zs_A) (k : Nat) : ∀ m, zs_cnt a k ≤ zs_cnt a (k + m)
  | 0 => Nat.le_refl _
  | m + 1 => by
    have := zs_cnt_mono a k m
    rw [← Nat.add_assoc, zs_cnt_1]
    omega
theorem zs_cnt_lt {a : zs_A} {k n : Nat} (hk : k < n) (h : zs_st a k = true) : zs_cnt a k < zs_cnt a n := by
  have := zs_cnt_mono a (k + 1) (n - (k + 1))
  rw [zs_cnt_1, if_pos h, show k + 1 + (n - (k + 1)) = n by omega] at this
  omega
/-- gathering under way -/
def zc_g (a : zs_A) (w u : zm_S) (k : Nat) : Prop := (∀ j, j ≠ 23 → j ≠ 25 → j ≠ 26 → u.1 j = w.1 j) ∧ u.2 = w.2 ∧ (∀ j, j ≠ 4 → j ≠ 7 → u.1 23 j = w.1 23 j) ∧ u.1 23 7 = nI (zs_cnt a k) ∧ ∀ i, i < k → u.1 25 i = zi (zs_st a i = true) ∧ (zs_st a i = true → u.1 26 (zs_cnt a i) = nI i)
theorem l_gather {d : Nat} {a : zs_A} (ha : zs_ok a) {w : zm_S} (h5 : w.1 23 5 = nI (a.1 0 0)) (h6 : w.1 23 6 = nI (2 ^ a.1 0 0 - 1)) (h24 : ∀ q, q < a.1 0 0 → w.1 24 q = nI (zs_cn a (a.1 0 3) q)) : ∀ (m k : Nat) (u : zm_S), k + m = 2 ^ a.1 0 0 → zc_g a w u k → zm_T zc_H (d + 1) mX6_gather (zp .null (fun u => zc_g a w u (2 ^ a.1 0 0) ∧ u.1 23 4 = 1)) 7 [(0, .ref 23), (1, .int (nI k))] [] u := by
  intro m
  have hp := zn_pow ha
  induction m with
  | zero =>
    intro k u hk h
    obtain rfl : k = 2 ^ a.1 0 0 := by omega
    refine gX6_gather_7 (fun _ => gX6_gather_61 ?_) (fun q => absurd ?_ q)
    · refine ⟨rfl, ⟨fun j q1 q2 q3 => by rw [zm_pa_ne q1]; exact h.1 j q1 q2 q3, h.2.1, fun j q1 q2 => by rw [zm_pa_at, pk_un q1]; exact h.2.2.1 j q1 q2, by rw [zm_pa_at, pk_un (by decide)]; exact h.2.2.2.1, fun i hi => by rw [zm_pa_ne (by decide), zm_pa_ne (by decide)]; exact h.2.2.2.2 i hi⟩, by rw [zm_pa_at, pk_us]⟩
    · rw [h.2.2.1 6 (by decide) (by decide), h6, nI_ltI (by omega) (by omega)]; omega
  | succ m ih =>
    intro k u hk h
    have hc := zs_cnt_le a k
    have cc : (nI k).toNatClampNeg = k := zx_clamp (by omega)
    refine gX6_gather_7 (fun q => absurd q ?_) (fun _ => ?_)
    · rw [h.2.2.1 6 (by decide) (by decide), h6, nI_ltI (by omega) (by omega)]; omega
    refine gX6_gather_15 (k_holdsNeeds ha (by rw [h.2.2.1 5 (by decide) (by decide)]; exact h5) (fun q hq => by rw [h.1 24 (by decide) (by decide) (by decide)]; exact h24 q hq) (by omega)) (zq_i ?_)
    refine gX6_gather_25 (vp_in_nI (by omega) (by decide)) (vp_in_nI (by omega) (by decide)) (fun g => gX6_gather_55 ?_) (fun g => gX6_gather_35 ?_ (gX6_gather_55 ?_))
    · rw [cc, zm_pa_at, pk_us, zx_nz] at g
      have g0 := zi_0.mp g
      rw [cc, zx_nz, nI_1]
      refine ih (k + 1) _ (by omega) ⟨fun j q1 q2 q3 => by rw [zm_pa_ne q2]; exact h.1 j q1 q2 q3, h.2.1, fun j q1 q2 => by rw [zm_pa_ne (by decide)]; exact h.2.2.1 j q1 q2, by rw [zm_pa_ne (by decide), zs_cnt_1, if_neg g0]; exact h.2.2.2.1, fun i hi => ?_⟩
      rw [zm_pa_at, zm_pa_ne (by decide)]
      by_cases z : i = k
      · rw [z, pk_us]; exact ⟨rfl, fun q => absurd q g0⟩
      · rw [pk_un z]; exact h.2.2.2.2 i (by omega)
    · rw [zm_pa_ne (by decide), h.2.2.2.1]; exact vp_in_nI (by omega) (by decide)
    · rw [cc, zm_pa_at, pk_us, zx_nz] at g
      have g0 := zi_n0.mp g
      rw [cc, zx_nz, nI_1, zm_pa_ne (by decide), h.2.2.2.1, zx_clamp (by omega), nI_1]
      refine ih (k + 1) _ (by omega) ⟨fun j q1 q2 q3 => by rw [zm_pa_ne q1, zm_pa_ne q3, zm_pa_ne q2]; exact h.1 j q1 q2 q3, h.2.1, fun j q1 q2 => by rw [zm_pa_at, pk_un q2, zm_pa_ne (by decide), zm_pa_ne (by decide)]; exact h.2.2.1 j q1 q2, by rw [zm_pa_at, pk_us, zs_cnt_1, if_pos g0], fun i hi => ?_⟩
      rw [zm_pa_ne (by decide), zm_pa_ne (by decide), zm_pa_at, zm_pa_ne (by decide), zm_pa_at, zm_pa_ne (by decide)]
      by_cases z : i = k
      · rw [z, pk_us, pk_us]; exact ⟨rfl, fun _ => rfl⟩
      · have hi2 : i < k := by omega
        obtain ⟨q1, q2⟩ := h.2.2.2.2 i hi2
        rw [pk_un z]
        refine ⟨q1, fun q3 => ?_⟩
        have := zs_cnt_lt hi2 q3
        rw [pk_un (by omega)]
        exact q2 q3
theorem l_findStates {d : Nat} {a : zs_A} {w : zm_S} (h : zc_0 a w) (hR : zc_R a w) {Q : Value → zm_S → Prop} (hQ : ∀ u, zc_0 a u → zc_R a u → u.1 23 5 = nI (a.1 0 0) → u.1 23 6 = nI (2 ^ a.1 0 0 - 1) → (∀ q, q < a.1 0 0 → u.1 24 q = nI (zs_cn a (a.1 0 3) q)) → (∀ j, j ≠ 23 → j ≠ 24 → u.1 j = w.1 j) → u.2 = w.2 → zm_T zc_H (d + 3) mX7_findStates Q 64 [(0, .ref 0)] [] u) : ∀ (m k : Nat) (u : zm_S), k + m = a.1 0 0 → u.1 23 5 = nI (a.1 0 0) → u.1 23 6 = nI (2 ^ a.1 0 0 - 1) → (∀ q, q < k → u.1 24 q = nI (zs_cn a (a.1 0 3) q)) → (∀ j, j ≠ 23 → j ≠ 24 → u.1 j = w.1 j) → u.2 = w.2 → zm_T zc_H (d + 3) mX7_findStates Q 27 [(0, .ref 0), (1, .int (nI k))] [] u := by
  intro m
  have hn := h.1.1.1
  induction m with
  | zero =>
    intro k u hk h5 h6 h24 hK h2
    obtain rfl : k = a.1 0 0 := by omega
    have h0 : zc_0 a u := h.keep (fun j hj => hK j (by omega) (by omega))
    exact gX7_findStates_27 (fun _ => hQ u h0 (hR.keep (fun j _ hj => hK j (by omega) (by omega)) h2) h5 h6 h24 hK h2) (fun q => absurd (by rw [h0.1.2.1]; exact Int32.le_refl _) q)
  | succ m ih =>
    intro k u hk h5 h6 h24 hK h2
    have h0 : zc_0 a u := h.keep (fun j hj => hK j (by omega) (by omega))
    refine gX7_findStates_27 (fun q => absurd q (by rw [h0.1.2.1]; exact nI_ge (by omega) (by omega))) (fun _ => ?_)
    refine gX7_findStates_38 zx_in3 (by rw [show (3 : Int32).toNatClampNeg = 3 from rfl, h0.2.2.2.1 3 (by decide)]; exact k_needsOf h0 (by omega) (by omega)) (zq_i ?_)
    refine gX7_findStates_57 (vp_in_nI (by omega) (by decide)) ?_
    rw [nI_1, zx_clamp (by omega)]
    refine ih (k + 1) _ (by omega) (by rw [zm_pa_ne (by decide)]; exact h5) (by rw [zm_pa_ne (by decide)]; exact h6) (fun q hq => ?_) (fun j q1 q2 => by rw [zm_pa_ne q2]; exact hK j q1 q2) h2
    rw [zm_pa_at]
    by_cases z : q = k
    · rw [z, pk_us]
    · rw [pk_un z]; exact h24 q (by omega)
theorem k_findStates {d : Nat} {a : zs_A} {w : zm_S} (h : zc_P a w) : zm_C zc_H (d + 3) mX7_findStates [.ref 0] w (zp .null (fun u => zc_Q a u ∧ (∀ j, j < 23 ∨ 26 < j → u.1 j = w.1 j) ∧ u.2 = w.2)) := by
  refine zm_C.of mtX7_findStates.1.2.2.2.2.2.2 rfl (Nat.le_of_ble_eq_true rfl) ?_
  obtain ⟨h0, hR, hB⟩ := h
  have hn := h0.1.1.1
  refine gX7_findStates_0 (fun g => ?_) (fun g => gX7_findStates_10 ?_)
  · have hC : zm_C zc_H (d + 2) mX6_begin [.ref 23, .int (w.1 2 9)] w (zq .null (zm_pi (zm_pi w 23 5 (nI (a.1 0 0))) 23 6 (nI (2 ^ a.1 0 0 - 1)))) := by
      refine zm_C.of mtX6_begin.1.2.2.2.2.2.2 rfl (Nat.le_of_ble_eq_true rfl) ?_
      refine gX6_begin_0 ?_
      rw [h0.1.2.1, zy_whole _ (by omega)]
      exact zq_m _ _
    refine gX7_findStates_11 hC (zq_v (gX7_findStates_25 ?_))
    refine l_findStates (d := d) h0 hR (fun u u0 uR u5 u6 u24 uK u2 => ?_) (a.1 0 0) 0 _ (by omega) (by rw [zm_pa_at, pk_un (by decide), zm_pa_at, pk_us]) (by rw [zm_pa_at, pk_us]) (fun q hq => absurd hq (Nat.not_lt_zero q)) (fun j q1 _ => by rw [zm_pa_ne q1, zm_pa_ne q1]) rfl
    have hC2 : zm_C zc_H (d + 2) mX6_gather [.ref 23] u (zp .null (fun z => zc_g a u z (2 ^ a.1 0 0) ∧ z.1 23 4 = 1)) := by
      refine zm_C.of mtX6_gather.1.2.2.2.2.2.2 rfl (Nat.le_of_ble_eq_true rfl) ?_
      refine gX6_gather_0 (l_gather (d := d + 1) h0.1.1 u5 u6 u24 (2 ^ a.1 0 0) 0 _ (by omega) ⟨fun j q1 _ _ => zm_pa_ne q1, rfl, fun j _ q2 => by rw [zm_pa_at, pk_un q2], by rw [zm_pa_at, pk_us]; rfl, fun i hi => absurd hi (Nat.not_lt_zero i)⟩)
    refine gX7_findStates_64 hC2 (zp_v (fun z hz => gX7_findStates_71 ?_))
    obtain ⟨⟨z1, z2, z3, z4, z5⟩, z6⟩ := hz
    refine ⟨rfl, ⟨u0.keep (fun j hj => z1 j (by omega) (by omega) (by omega)), uR.keep (fun j _ hj => z1 j (by omega) (by omega) (by omega)) z2, z6, by rw [z3 5 (by decide) (by decide)]; exact u5, by rw [z3 6 (by decide) (by decide)]; exact u6, z4, z5⟩, fun j hj => ?_, by rw [z2]; exact u2⟩
    rw [z1 j (by omega) (by omega) (by omega)]
    exact uK j (by omega) (by omega)
  · rcases hB with hB | hB
    · exact absurd hB g
    · exact ⟨rfl, ⟨h0, hR, hB⟩, fun _ _ => rfl, rfl⟩
