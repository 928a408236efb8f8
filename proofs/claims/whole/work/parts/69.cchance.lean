/-! ===== chances, in the class ===== -/
theorem l_common {d : Nat} {w : zm_S} {g : Nat} : ∀ (k t x y : Nat), y < 2 ^ k → t + 2 * k + 1 ≤ 130 → x < 2 ^ 62 → y < 2 ^ 62 → Nat.gcd x y = g → zm_T zc_H d mX7_commonDivisor (zq (.long (lN g)) w) 9 [(4, .long (lN x)), (6, .long (lN y)), (8, .int (nI t))] [] w := by
  have stop : ∀ t x, t < 130 → x < 2 ^ 62 → Nat.gcd x 0 = g → zm_T zc_H d mX7_commonDivisor (zq (.long (lN g)) w) 9 [(4, .long (lN x)), (6, .long (lN 0)), (8, .int (nI t))] [] w := by
    intro t x ht hx hg
    rw [Nat.gcd_zero_right] at hg
    refine gX7_commonDivisor_9 (fun q => absurd q (nI_ge (b := 130) (by omega) (by omega))) (fun _ => ?_)
    refine gX7_commonDivisor_17 (fun _ => gX7_commonDivisor_45 (by rw [hg]; exact zq_m _ _)) (fun q => absurd ?_ q)
    rw [zl_cmp0]; rfl
  have go : ∀ t x y, t < 130 → x < 2 ^ 62 → y < 2 ^ 62 → y ≠ 0 → zm_T zc_H d mX7_commonDivisor (zq (.long (lN g)) w) 9 [(4, .long (lN y)), (6, .long (lN (x % y))), (8, .int (nI (t + 1)))] [] w → zm_T zc_H d mX7_commonDivisor (zq (.long (lN g)) w) 9 [(4, .long (lN x)), (6, .long (lN y)), (8, .int (nI t))] [] w := by
    intro t x y ht hx hy hy0 next
    refine gX7_commonDivisor_9 (fun q => absurd q (nI_ge (b := 130) (by omega) (by omega))) (fun _ => ?_)
    refine gX7_commonDivisor_17 (fun q => absurd q ?_) (fun _ => ?_)
    · rw [zl_cmp0, zl_0 (by omega)]; exact hy0
    refine gX7_commonDivisor_24 (by rw [zl_0 (by omega)]; exact hy0) ?_
    rw [pk_lRem (by omega) (by omega) (by omega), nI_1]
    exact next
  have hrec : ∀ x y, Nat.gcd y (x % y) = Nat.gcd x y := fun x y => by rw [Nat.gcd_comm x y, Nat.gcd_rec y x, Nat.gcd_comm]
  intro k
  induction k with
  | zero =>
    intro t x y hy ht hx hy2 hg
    obtain rfl : y = 0 := by simp at hy; exact hy
    exact stop t x (by omega) hx hg
  | succ k ih =>
    intro t x y hy ht hx hy2 hg
    by_cases y0 : y = 0
    · subst y0
      exact stop t x (by omega) hx hg
    · have hr := Nat.mod_lt x (Nat.pos_of_ne_zero y0)
      refine go t x y (by omega) hx hy2 y0 ?_
      rw [← hrec x y] at hg
      generalize x % y = r at hr hg ⊢
      by_cases r0 : r = 0
      · subst r0
        exact stop (t + 1) y (by omega) hy2 hg
      · refine go (t + 1) y r (by omega) hy2 (by omega) r0 ?_
        rw [← hrec y r] at hg
        have hr2 := Nat.mod_lt y (Nat.pos_of_ne_zero r0)
        have hd : y % r + r ≤ y := by
          have e := Nat.div_add_mod y r
          have h1 : 1 ≤ y / r := (Nat.le_div_iff_mul_le (Nat.pos_of_ne_zero r0)).mpr (by omega)
          have h2 : r ≤ r * (y / r) := Nat.le_mul_of_pos_right r h1
          omega
        rw [Nat.pow_succ] at hy
        exact ih (t + 2) r (y % r) (by omega) (by omega) (by omega) (by omega) hg
theorem k_lowestTerm {d : Nat} {w : zm_S} {a b c : Nat} (ha : a < 2 ^ 62) (hb : b < 2 ^ 62) (hb0 : 0 < b) (hc : c < 2) : zm_C zc_H (d + 1) mX7_lowestTerm [.long (lN a), .long (lN b), .int (nI c)] w (zq (.long (lN (zs_fr a b c))) w) := by
  refine zm_C.of mtX7_lowestTerm.1.2.2.2.2.2.2 rfl (Nat.le_of_ble_eq_true rfl) ?_
  have hg0 : 0 < Nat.gcd a b := Nat.gcd_pos_of_pos_right a hb0
  have hgl : Nat.gcd a b ≤ b := Nat.gcd_le_right a hb0
  have hne : ¬ lN (Nat.gcd a b) = 0 := by rw [zl_0 (by omega)]; omega
  have hC : zm_C zc_H d mX7_commonDivisor [.long (lN a), .long (lN b)] w (zq (.long (lN (Nat.gcd a b))) w) := by
    refine zm_C.of mtX7_commonDivisor.1.2.2.2.2.2.2 rfl (Nat.le_of_ble_eq_true rfl) ?_
    exact gX7_commonDivisor_0 (l_common 62 0 b a ha (by omega) hb ha (Nat.gcd_comm b a))
  refine gX7_lowestTerm_0 hC (zq_l ?_)
  have fin : ∀ x, x < 2 ^ 62 → x / Nat.gcd a b = zs_fr a b c → zm_T zc_H (d + 1) mX7_lowestTerm (zq (.long (lN (zs_fr a b c))) w) 17 [(5, .long (lN (Nat.gcd a b)))] [.long (lN x)] w := by
    intro x hx he
    refine gX7_lowestTerm_17 (fun g => absurd g ?_) (fun _ => gX7_lowestTerm_26 hne ?_)
    · rw [lg_cmp_le, show (0 : Int64) = lN 0 from rfl, pk_lLE (by omega) (by omega)]
      omega
    · rw [pk_lDiv (by omega) hg0 (by omega), he]
      exact zq_m _ _
  refine gX7_lowestTerm_5 (fun g => gX7_lowestTerm_16 (fin b hb ?_)) (fun g => gX7_lowestTerm_12 (fin a ha ?_))
  · rw [zs_fr, if_neg (fun q => g (by rw [q]; rfl))]
  · rw [zs_fr, if_pos ((nI_eq (b := 0) (by omega) (by decide)).mp g)]
theorem k_refusal {d : Nat} {w : zm_S} (x : Int32) : zm_C zc_H d mX7_refusal [.int x] w (zq (.long (zs_no x)) w) := by
  refine zm_C.of mtX7_refusal.1.2.2.2.2.2.2 rfl (Nat.le_of_ble_eq_true rfl) ?_
  exact gX7_refusal_0 (zq_m _ _)
theorem k_chanceFits {d : Nat} {w : zm_S} (p s sl lu : Int32) : zm_C zc_H (d + 1) mX7_chanceFits [.int p, .int s, .int sl, .int lu] w (zq (.int (zi ((0 ≤ p ∧ p < 12) ∧ (0 ≤ s ∧ s < 128) ∧ (0 ≤ sl ∧ sl < 17) ∧ 0 ≤ lu ∧ lu < 17))) w) := by
  refine zm_C.of mtX7_chanceFits.1.2.2.2.2.2.2 rfl (Nat.le_of_ble_eq_true rfl) ?_
  have bad : ∀ (hb : ¬ ((0 ≤ p ∧ p < 12) ∧ (0 ≤ s ∧ s < 128) ∧ (0 ≤ sl ∧ sl < 17) ∧ 0 ≤ lu ∧ lu < 17)), zm_T zc_H (d + 1) mX7_chanceFits (zq (.int (zi ((0 ≤ p ∧ p < 12) ∧ (0 ≤ s ∧ s < 128) ∧ (0 ≤ sl ∧ sl < 17) ∧ 0 ≤ lu ∧ lu < 17))) w) 41 [] [] w := fun hb => gX7_chanceFits_41 (by rw [zi_f hb]; exact zq_m _ _)
  refine gX7_chanceFits_0 (k_within _ _) (zq_i ?_)
  refine gX7_chanceFits_6 (fun g => bad (fun c => zi_0.mp g c.1)) (fun g1 => ?_)
  refine gX7_chanceFits_9 (k_within _ _) (zq_i ?_)
  refine gX7_chanceFits_16 (fun g => bad (fun c => zi_0.mp g c.2.1)) (fun g2 => ?_)
  refine gX7_chanceFits_19 (k_within _ _) (zq_i ?_)
  refine gX7_chanceFits_25 (fun g => bad (fun c => zi_0.mp g c.2.2.1)) (fun g3 => ?_)
  refine gX7_chanceFits_28 (k_within _ _) (zq_i ?_)
  refine gX7_chanceFits_34 (fun g => bad (fun c => zi_0.mp g c.2.2.2)) (fun g4 => gX7_chanceFits_37 ?_)
  rw [zi_t ⟨zi_n0.mp g1, zi_n0.mp g2, zi_n0.mp g3, zi_n0.mp g4⟩]
  exact zq_m _ _
theorem c_chance {d : Nat} {a : zs_A} {w : zm_S} (h : zc_P a w) (p s sl lu x : Int32) : zm_C zc_H (d + 3) mX7_chance [.ref 0, .int p, .int s, .int sl, .int lu, .int x] w (zp (.long (zs_chance a p s sl lu x)) (zc_P a)) := by
  refine zm_C.of mtX7_chance.1.2.2.2.2.2.2 rfl (Nat.le_of_ble_eq_true rfl) ?_
  have ha := h.1.1.1
  have bad : ∀ (hb : ¬ ((0 ≤ p ∧ p < 12) ∧ (0 ≤ s ∧ s < 128) ∧ ((0 ≤ sl ∧ sl < 17) ∧ 0 ≤ lu ∧ lu < 17) ∧ 0 ≤ x ∧ x < 2)), zm_T zc_H (d + 3) mX7_chance (zp (.long (zs_chance a p s sl lu x)) (zc_P a)) 20 [] [] w := fun hb => gX7_chance_20 (k_refusal _) (zq_l (gX7_chance_25 (by rw [zs_chance, if_neg hb]; exact ⟨rfl, h⟩)))
  refine gX7_chance_0 (k_chanceFits p s sl lu) (zq_i ?_)
  refine gX7_chance_8 (fun g => bad (fun c => zi_0.mp g ⟨c.1, c.2.1, c.2.2.1.1, c.2.2.1.2⟩)) (fun g1 => ?_)
  refine gX7_chance_11 (k_within _ _) (zq_i ?_)
  refine gX7_chance_17 (fun g2 => ?_) (fun g => bad (fun c => zi_0.mp g c.2.2.2))
  have q1 := zi_n0.mp g1
  have hG : (0 ≤ p ∧ p < 12) ∧ (0 ≤ s ∧ s < 128) ∧ ((0 ≤ sl ∧ sl < 17) ∧ 0 ≤ lu ∧ lu < 17) ∧ 0 ≤ x ∧ x < 2 := ⟨q1.1, q1.2.1, q1.2.2, zi_n0.mp g2⟩
  obtain ⟨p, hp, rfl⟩ := zx_of (n := 12) hG.1 (by decide)
  obtain ⟨s, hs, rfl⟩ := zx_of (n := 128) hG.2.1 (by decide)
  obtain ⟨sl, hsl, rfl⟩ := zx_of (n := 17) hG.2.2.1.1 (by decide)
  obtain ⟨lu, hlu, rfl⟩ := zx_of (n := 17) hG.2.2.1.2 (by decide)
  obtain ⟨x, hx, rfl⟩ := zx_of (n := 2) hG.2.2.2 (by decide)
  have h1 := zs_ca_lt (a := a) (p := p) (s := s) (sl := sl) (lu := lu) (by omega) ha.1.2.1
  have h2 := zs_cb_lt a p ha.1.2.1
  have h3 := (zs_cb_le a p (a.1 0 0)).2
  rw [zs_chance, if_pos hG, zx_clamp (by omega), zx_clamp (by omega), zx_clamp (by omega), zx_clamp (by omega), zx_clamp (by omega)]
  refine gX7_chance_26 (k_chanceAboveC h.1.1 hp hs (by omega) (by omega)) (zq_l ?_)
  refine gX7_chance_38 (k_chanceBelow h.1.1 hp) (zq_l ?_)
  exact gX7_chance_46 (k_lowestTerm (by omega) (by omega) h3 hx) (zq_l (gX7_chance_51 ⟨rfl, h⟩))
theorem l_shareC {d : Nat} {a : zs_A} {w : zm_S} (h : zc_Q a w) {p sl lu : Nat} (hp12 : p < 12) (hsl : sl ≤ 16) (hlu : lu ≤ 16) {x o : Int32} {Q : Value → zm_S → Prop} (hk : zm_T zc_H (d + 2) mX7_share Q 110 [(0, .ref 0), (1, .int (nI p)), (3, .int (nI sl)), (4, .int (nI lu)), (5, .int x), (6, .int o), (7, .long (lN (zs_cs a p sl lu (2 ^ a.1 0 0))))] [] w) : ∀ (m k : Nat), k + m = 2 ^ a.1 0 0 → zm_T zc_H (d + 2) mX7_share Q 66 [(0, .ref 0), (1, .int (nI p)), (3, .int (nI sl)), (4, .int (nI lu)), (5, .int x), (6, .int o), (7, .long (lN (zs_cs a p sl lu k))), (9, .int (nI (zs_cnt a k)))] [] w := by
  intro m
  have ha := h.1.1.1
  have hp := zn_pow ha
  have hcl := zs_cnt_le a (2 ^ a.1 0 0)
  obtain ⟨b5, b6, b7, b8⟩ := h.2.2.2
  induction m with
  | zero =>
    intro k hk2
    obtain rfl : k = 2 ^ a.1 0 0 := by omega
    exact gX7_share_66 (fun _ => hk) (fun q => absurd (by rw [b7]; exact Int32.le_refl _) q)
  | succ m ih =>
    intro k hk2
    have next := ih (k + 1) (by omega)
    have hck := zs_cnt_le a k
    by_cases c : zs_st a k = true
    · have hlt := zs_cnt_lt (n := 2 ^ a.1 0 0) (by omega) c
      have e26 : w.1 26 (nI (zs_cnt a k)).toNatClampNeg = nI k := by rw [zx_clamp (by omega)]; exact (b8 k (by omega)).2 c
      rw [zs_cs, if_pos c, zs_cnt_1, if_pos c] at next
      refine gX7_share_66 (fun q => absurd q (by rw [b7]; exact nI_ge (by omega) (by omega))) (fun _ => ?_)
      refine gX7_share_78 (vp_in_nI (by omega) (by decide)) (by rw [e26]; exact k_chanceAboveC h.1.1 hp12 (by omega) hsl hlu) (zq_l (gX7_share_101 ?_))
      rw [lN_add, nI_1]
      exact next
    · rw [zs_cs, if_neg c, zs_cnt_1, if_neg c] at next
      exact next
theorem c_share {d : Nat} {a : zs_A} {w : zm_S} (h : zc_P a w) (p s sl lu x : Int32) : zm_C zc_H (d + 4) mX7_share [.ref 0, .int p, .int s, .int sl, .int lu, .int x] w (zp (.long (zs_share a p s sl lu x)) (zc_P a)) := by
  refine zm_C.of mtX7_share.1.2.2.2.2.2.2 rfl (Nat.le_of_ble_eq_true rfl) ?_
  have ha := h.1.1.1
  have hp2 := zn_pow ha
  have bad : ∀ (hb : ¬ ((0 ≤ p ∧ p < 12) ∧ (0 ≤ s ∧ s < 128) ∧ ((0 ≤ sl ∧ sl < 17) ∧ 0 ≤ lu ∧ lu < 17) ∧ 0 ≤ x ∧ x < 2)), zm_T zc_H (d + 4) mX7_share (zp (.long (zs_share a p s sl lu x)) (zc_P a)) 20 [] [] w := fun hb => gX7_share_20 (k_refusal _) (zq_l (gX7_share_25 (by rw [zs_share, if_neg hb]; exact ⟨rfl, h⟩)))
  refine gX7_share_0 (k_chanceFits p s sl lu) (zq_i ?_)
  refine gX7_share_8 (fun g => bad (fun c => zi_0.mp g ⟨c.1, c.2.1, c.2.2.1.1, c.2.2.1.2⟩)) (fun g1 => ?_)
  refine gX7_share_11 (k_within _ _) (zq_i ?_)
  refine gX7_share_17 (fun g2 => ?_) (fun g => bad (fun c => zi_0.mp g c.2.2.2))
  have q1 := zi_n0.mp g1
  have hG : (0 ≤ p ∧ p < 12) ∧ (0 ≤ s ∧ s < 128) ∧ ((0 ≤ sl ∧ sl < 17) ∧ 0 ≤ lu ∧ lu < 17) ∧ 0 ≤ x ∧ x < 2 := ⟨q1.1, q1.2.1, q1.2.2, zi_n0.mp g2⟩
  obtain ⟨p, hp, rfl⟩ := zx_of (n := 12) hG.1 (by decide)
  obtain ⟨s, hs, rfl⟩ := zx_of (n := 128) hG.2.1 (by decide)
  obtain ⟨sl, hsl, rfl⟩ := zx_of (n := 17) hG.2.2.1.1 (by decide)
  obtain ⟨lu, hlu, rfl⟩ := zx_of (n := 17) hG.2.2.1.2 (by decide)
  obtain ⟨x, hx, rfl⟩ := zx_of (n := 2) hG.2.2.2 (by decide)
  rw [zs_share, if_pos hG, zx_clamp (by omega), zx_clamp (by omega), zx_clamp (by omega), zx_clamp (by omega), zx_clamp (by omega)]
  refine gX7_share_26 (k_findStates h) (zp_v (fun u hu => ?_))
  obtain ⟨hQ, -, -⟩ := hu
  have hin := zs_inT ha s
  have e6 : nI s &&& u.1 23 6 = nI (s &&& (2 ^ a.1 0 0 - 1)) := by rw [hQ.2.2.2.2.1, fa_and]
  have e25 : u.1 25 (nI s &&& u.1 23 6).toNatClampNeg = zi (zs_st a (s &&& (2 ^ a.1 0 0 - 1)) = true) := by rw [e6, zx_clamp (by omega)]; exact (hQ.2.2.2.2.2.2 _ hin).1
  have h1 := zs_ca_lt (a := a) (p := p) (s := s &&& (2 ^ a.1 0 0 - 1)) (sl := sl) (lu := lu) (by omega) ha.1.2.1
  have h2 := zs_cs_le ha (p := p) (sl := sl) (lu := lu) (by omega) (2 ^ a.1 0 0)
  have h2' : 2 ^ a.1 0 0 * 268435456 ≤ 128 * 268435456 := Nat.mul_le_mul_right _ hp2.2
  refine gX7_share_30 (by rw [e6]; exact vp_in_nI (by omega) (by decide)) (fun g => ?_) (fun g => ?_)
  · rw [e25] at g
    rw [if_pos (zi_n0.mp g), e6]
    refine gX7_share_60 (l_shareC (d := d + 2) hQ hp (by omega) (by omega) ?_ (2 ^ a.1 0 0) 0 (by omega))
    refine gX7_share_110 (fun g5 => ?_) (fun g5 => ?_)
    · rw [zl_cmp0, zl_0 (by omega)] at g5
      rw [if_neg g5]
      refine gX7_share_123 (k_chanceAboveC hQ.1.1 hp (by omega) (by omega) (by omega)) (zq_l ?_)
      exact gX7_share_136 (k_lowestTerm (by omega) (by omega) (by omega) hx) (zq_l (gX7_share_143 ⟨rfl, hQ.P⟩))
    · rw [zl_cmp0, zl_0 (by omega)] at g5
      rw [if_pos g5]
      exact gX7_share_117 (k_refusal _) (zq_l (gX7_share_122 ⟨rfl, hQ.P⟩))
  · rw [e25] at g
    rw [if_neg (zi_0.mp g)]
    exact gX7_share_54 (k_refusal _) (zq_l (gX7_share_59 ⟨rfl, hQ.P⟩))
theorem zl_m1 {n : Nat} (h : n < 2 ^ 31) : (-1 : Int64) < lN n := by
  rw [Int64.lt_iff_toInt_lt]
  have : (lN n).toInt = n := lN_toInt (by omega)
  rw [this, show (-1 : Int64).toInt = -1 from rfl]
  omega
theorem zs_lk_ge {a : zs_A} (ha : zs_ok a) (p sl : Nat) {lu : Nat} (hlu : lu ≤ 16) : ∀ k, (-1 : Int64) ≤ (zs_lk a p sl lu k).2
  | 0 => Int64.le_refl _
  | k + 1 => by
    have h1 := zs_ca_lt (a := a) (p := p) (s := k) (sl := sl) (lu := lu) hlu ha.1.2.1
    rw [zs_lk]
    by_cases c : (zs_lk a p sl lu k).2 < (if zs_st a k = true then lN (zs_ca a p k sl lu (a.1 0 0)) else -1)
    · rw [if_pos c]
      by_cases c2 : zs_st a k = true
      · rw [if_pos c2]
        exact Int64.le_of_lt (zl_m1 (by omega))
      · rw [if_neg c2]
        exact Int64.le_refl _
    · rw [if_neg c]
      exact zs_lk_ge ha p sl hlu k
theorem l_likeliestC {d : Nat} {a : zs_A} {w : zm_S} (h : zc_Q a w) {p sl lu : Nat} (hp12 : p < 12) (hsl : sl ≤ 16) (hlu : lu ≤ 16) : ∀ (m k : Nat), k + m = 2 ^ a.1 0 0 → zm_T zc_H (d + 2) mX7_likeliest (zq (.int (zs_lk a p sl lu (2 ^ a.1 0 0)).1) w) 28 [(0, .ref 0), (1, .int (nI p)), (2, .int (nI sl)), (3, .int (nI lu)), (4, .int (zs_lk a p sl lu k).1), (5, .long (zs_lk a p sl lu k).2), (7, .int (nI (zs_cnt a k)))] [] w := by
  intro m
  have ha := h.1.1.1
  have hp := zn_pow ha
  have hcl := zs_cnt_le a (2 ^ a.1 0 0)
  obtain ⟨b5, b6, b7, b8⟩ := h.2.2.2
  induction m with
  | zero =>
    intro k hk2
    obtain rfl : k = 2 ^ a.1 0 0 := by omega
    exact gX7_likeliest_28 (fun _ => gX7_likeliest_92 (zq_m _ _)) (fun q => absurd (by rw [b7]; exact Int32.le_refl _) q)
  | succ m ih =>
    intro k hk2
    have next := ih (k + 1) (by omega)
    have hck := zs_cnt_le a k
    have hge := zs_lk_ge ha p sl hlu k
    rw [zs_lk] at next
    by_cases c : zs_st a k = true
    · have hlt := zs_cnt_lt (n := 2 ^ a.1 0 0) (by omega) c
      have e26 : w.1 26 (nI (zs_cnt a k)).toNatClampNeg = nI k := by rw [zx_clamp (by omega)]; exact (b8 k (by omega)).2 c
      rw [if_pos c, zs_cnt_1, if_pos c] at next
      refine gX7_likeliest_28 (fun q => absurd q (by rw [b7]; exact nI_ge (by omega) (by omega))) (fun _ => ?_)
      refine gX7_likeliest_40 (vp_in_nI (by omega) (by decide)) (by rw [e26]; exact k_chanceAboveC h.1.1 hp12 (by omega) hsl hlu) (zq_l ?_)
      refine gX7_likeliest_60 (fun g => gX7_likeliest_86 ?_) (fun g => gX7_likeliest_70 (vp_in_nI (by omega) (by decide)) (gX7_likeliest_86 ?_))
      · rw [lg_cmp_le] at g
        rw [if_neg (Int64.not_lt.mpr g)] at next
        rw [nI_1]
        exact next
      · rw [lg_cmp_le] at g
        rw [if_pos (Int64.not_le.mp g)] at next
        rw [nI_1, e26]
        exact next
    · rw [if_neg c, if_neg (Int64.not_lt.mpr hge), zs_cnt_1, if_neg c] at next
      exact next
theorem c_likeliest {d : Nat} {a : zs_A} {w : zm_S} (h : zc_P a w) (p sl lu : Int32) : zm_C zc_H (d + 4) mX7_likeliest [.ref 0, .int p, .int sl, .int lu] w (zp (.int (zs_likeliest a p sl lu)) (zc_P a)) := by
  refine zm_C.of mtX7_likeliest.1.2.2.2.2.2.2 rfl (Nat.le_of_ble_eq_true rfl) ?_
  have ha := h.1.1.1
  have hp2 := zn_pow ha
  refine gX7_likeliest_0 (k_chanceFits p 0 sl lu) (zq_i ?_)
  refine gX7_likeliest_7 (fun g => ?_) (fun g => gX7_likeliest_10 ?_)
  · have q1 := zi_n0.mp g
    have hG : (0 ≤ p ∧ p < 12) ∧ (0 ≤ sl ∧ sl < 17) ∧ 0 ≤ lu ∧ lu < 17 := ⟨q1.1, q1.2.2⟩
    obtain ⟨p, hp, rfl⟩ := zx_of (n := 12) hG.1 (by decide)
    obtain ⟨sl, hsl, rfl⟩ := zx_of (n := 17) hG.2.1 (by decide)
    obtain ⟨lu, hlu, rfl⟩ := zx_of (n := 17) hG.2.2 (by decide)
    rw [zs_likeliest, if_pos hG, zx_clamp (by omega), zx_clamp (by omega), zx_clamp (by omega)]
    refine gX7_likeliest_13 (k_findStates h) (zp_v (fun u hu => gX7_likeliest_17 ?_))
    obtain ⟨hQ, -, -⟩ := hu
    obtain ⟨b5, b6, b7, b8⟩ := hQ.2.2.2
    have hcl := zs_cnt_le a (2 ^ a.1 0 0)
    have hlt := zs_cnt_lt (a := a) (k := 0) (n := 2 ^ a.1 0 0) (by omega) (zs_st0 a)
    have e26 : u.1 26 (0 : Int32).toNatClampNeg = nI 0 := (b8 0 (by omega)).2 (zs_st0 a)
    have h1 := zs_ca_lt (a := a) (p := p) (s := 0) (sl := sl) (lu := lu) (by omega) ha.1.2.1
    have next := l_likeliestC (d := d + 2) hQ hp (sl := sl) (lu := lu) (by omega) (by omega) (2 ^ a.1 0 0 - 1) 1 (by omega)
    rw [show zs_lk a p sl lu 1 = (nI 0, lN (zs_ca a p 0 sl lu (a.1 0 0))) by rw [zs_lk, if_pos (zs_st0 a)]; exact if_pos (zl_m1 (by omega)), show zs_cnt a 1 = 1 by rw [zs_cnt_1, if_pos (zs_st0 a)]; rfl] at next
    refine zm_T.post (fun r z (hz : zq _ u r z) => ⟨hz.1, by rw [hz.2]; exact hQ.P⟩) ?_
    refine gX7_likeliest_28 (fun q => absurd q (by rw [b7]; exact nI_ge (a := 0) (by omega) (by omega))) (fun _ => ?_)
    refine gX7_likeliest_40 (vp_in_nI (n := 0) (by omega) (by decide)) (by rw [e26]; exact k_chanceAboveC hQ.1.1 hp (by omega) (by omega) (by omega)) (zq_l ?_)
    refine gX7_likeliest_60 (fun g2 => absurd ((lg_cmp_le _ _).mp g2) (Int64.not_le.mpr (zl_m1 (by omega)))) (fun _ => gX7_likeliest_70 (vp_in_nI (n := 0) (by omega) (by decide)) (gX7_likeliest_86 ?_))
    rw [e26]
    exact next
  · rw [zs_likeliest, if_neg (fun c => zi_0.mp g ⟨c.1, by decide, c.2⟩)]
    exact ⟨rfl, h⟩
