/-! ===== chances ===== -/
theorem zl_cmp0 (x y : Int64) : lg_cmp x y = 0 ↔ x = y := lg_cmp_eq x y
def zs_no (x : Int32) : Int64 := -9223372036854775808 - x.toInt64
theorem k_no {d : Nat} {w : zm_S} (x : Int32) : zm_C zd_H d mX8_no [.int x] w (zq (.long (zs_no x)) w) := by
  refine zm_C.of mtX8_no.1.2.2.2.2.2.2 rfl (Nat.le_of_ble_eq_true rfl) ?_
  exact gX8_no_0 (zq_m _ _)
theorem zl_0 {n : Nat} (h : n < 2 ^ 63) : (lN n = 0) ↔ n = 0 := pk_lEQ (b := 0) h (by decide)
theorem l_part {d : Nat} {w : zm_S} {Q : Value → zm_S → Prop} {x y : Int64} {c : Int32} {g : Nat} (hk : zm_T zd_H d mX8_part Q 31 [(0, .long x), (2, .long y), (4, .int c), (5, .long (lN g))] [] w) : ∀ (m a b : Nat), b < m → a < 2 ^ 62 → b < 2 ^ 62 → Nat.gcd a b = g → zm_T zd_H d mX8_part Q 6 [(0, .long x), (2, .long y), (4, .int c), (5, .long (lN a)), (7, .long (lN b))] [] w := by
  intro m
  induction m with
  | zero => intro a b h; omega
  | succ m ih =>
    intro a b hb ha hb2 hg
    refine gX8_part_6 (fun z => ?_) (fun z => ?_)
    · rw [zl_cmp0, zl_0 (by omega)] at z
      rw [z, Nat.gcd_zero_right] at hg
      rw [hg]
      exact hk
    · rw [zl_cmp0, zl_0 (by omega)] at z
      refine gX8_part_13 (by rw [zl_0 (by omega)]; exact z) ?_
      rw [pk_lRem (by omega) (by omega) (by omega)]
      have hlt := Nat.mod_lt a (Nat.pos_of_ne_zero z)
      refine ih b (a % b) (by omega) hb2 (by omega) ?_
      rw [← hg, Nat.gcd_comm a b, Nat.gcd_rec b a, Nat.gcd_comm]
def zs_fr (a b w : Nat) : Nat := (if w = 0 then a else b) / Nat.gcd a b
theorem k_part {d : Nat} {w : zm_S} {a b c : Nat} (ha : a < 2 ^ 62) (hb : b < 2 ^ 62) (hb0 : 0 < b) (hc : c < 2) : zm_C zd_H d mX8_part [.long (lN a), .long (lN b), .int (nI c)] w (zq (.long (lN (zs_fr a b c))) w) := by
  refine zm_C.of mtX8_part.1.2.2.2.2.2.2 rfl (Nat.le_of_ble_eq_true rfl) ?_
  have hg0 : 0 < Nat.gcd a b := Nat.gcd_pos_of_pos_right a hb0
  have hgl : Nat.gcd a b ≤ b := Nat.gcd_le_right a hb0
  have hne : ¬ lN (Nat.gcd a b) = 0 := by rw [zl_0 (by omega)]; omega
  refine gX8_part_0 ?_
  refine l_part (g := Nat.gcd a b) ?_ (b + 1) a b (by omega) ha hb rfl
  refine gX8_part_31 (fun z => gX8_part_40 hne ?_) (fun z => gX8_part_36 hne ?_)
  · rw [pk_lDiv (by omega) hg0 (by omega), zs_fr, if_neg (fun q => z (by rw [q]; rfl))]
    exact zq_m _ _
  · rw [pk_lDiv (by omega) hg0 (by omega), zs_fr, if_pos ((nI_eq (b := 0) (by omega) (by decide)).mp z)]
    exact zq_m _ _
def zs_cf (a : zs_A) (p s sl lu q : Nat) : Nat :=
  if zs_S a p q = 2 then 1 else if zs_S a p q = 1 then (if s.testBit q = true then 16 - sl else lu) else 16 - (if s.testBit q = true then 16 - sl else lu)
def zs_ca (a : zs_A) (p s sl lu : Nat) : Nat → Nat
  | 0 => 1
  | m + 1 => zs_ca a p s sl lu m * zs_cf a p s sl lu m
theorem zs_cf_le {a : zs_A} {p s sl lu q : Nat} (h2 : lu ≤ 16) : zs_cf a p s sl lu q ≤ 16 := by
  unfold zs_cf
  split
  · omega
  · split
    · split <;> omega
    · omega
theorem zs_ca_le {a : zs_A} {p s sl lu : Nat} (h2 : lu ≤ 16) : ∀ m, zs_ca a p s sl lu m ≤ 16 ^ m
  | 0 => Nat.le_refl _
  | m + 1 => by
    rw [zs_ca, Nat.pow_succ]
    exact Nat.mul_le_mul (zs_ca_le h2 m) (zs_cf_le h2)
theorem zs_ca_lt {a : zs_A} {p s sl lu : Nat} (h2 : lu ≤ 16) {m : Nat} (hm : m ≤ 7) : zs_ca a p s sl lu m ≤ 268435456 := Nat.le_trans (zs_ca_le h2 m) (Nat.pow_le_pow_right (n := 16) (j := 7) (by decide) hm)
theorem zx_16 {y : Nat} (h : y ≤ 16) : (16 : Int32) - nI y = nI (16 - y) := pk_sub (a := 16) h
theorem l_chanceAbove {d : Nat} {a : zs_A} {v : zm_S} (h : zd_P a v) (hS : zd_S a v) {p s sl lu : Nat} (hp : p < 12) (hs : s < 128) (hsl : sl ≤ 16) (hlu : lu ≤ 16) : ∀ (m k : Nat), k + m = a.1 0 0 → zm_T zd_H (d + 1) mX8_chanceAbove (zq (.long (lN (zs_ca a p s sl lu (a.1 0 0)))) v) 6 [(0, .ref 0), (1, .int (nI p)), (2, .int (nI s)), (3, .int (nI sl)), (4, .int (nI lu)), (5, .long (lN (zs_ca a p s sl lu k))), (7, .int (nI k))] [] v := by
  intro m
  have hn := h.1.1
  induction m with
  | zero =>
    intro k hk
    obtain rfl : k = a.1 0 0 := by omega
    refine gX8_chanceAbove_6 (k_n h) (zq_i ?_)
    exact gX8_chanceAbove_12 (fun _ => gX8_chanceAbove_84 (zq_m _ _)) (fun q => absurd (Int32.le_refl _) q)
  | succ m ih =>
    intro k hk
    have next := ih (k + 1) (by omega)
    have hs3 := zs_S_lt h.1 p k
    have e : v.1 10 ((7 : Int32) * nI p + nI k).toNatClampNeg = nI (zs_S a p k) := by rw [zx_7, zx_clamp (by omega)]; exact hS p k hp (by omega)
    refine gX8_chanceAbove_6 (k_n h) (zq_i ?_)
    refine gX8_chanceAbove_12 (fun q => absurd q (nI_ge (by omega) (by omega))) (fun _ => ?_)
    refine gX8_chanceAbove_15 (by rw [zx_7]; exact vp_in_nI (by omega) (by decide)) (fun g => ?_) (fun g => ?_)
    · rw [e] at g
      have g2 : zs_S a p k = 2 := (nI_eq (b := 2) (by omega) (by decide)).mp g
      refine gX8_chanceAbove_78 ?_
      rw [zs_ca, zs_cf, if_pos g2, Nat.mul_one] at next
      rw [nI_1]
      exact next
    · rw [e] at g
      rw [e]
      have g2 : ¬ zs_S a p k = 2 := fun z => g (by rw [z]; rfl)
      rw [zs_ca, zs_cf, if_neg g2] at next
      have go : ∀ y, y ≤ 16 → y = (if s.testBit k = true then 16 - sl else lu) → zm_T zd_H (d + 1) mX8_chanceAbove (zq (.long (lN (zs_ca a p s sl lu (a.1 0 0)))) v) 53 [(0, .ref 0), (1, .int (nI p)), (2, .int (nI s)), (3, .int (nI sl)), (4, .int (nI lu)), (5, .long (lN (zs_ca a p s sl lu k))), (7, .int (nI k)), (8, .int (nI (zs_S a p k)))] [.int (nI y)] v := by
        intro y hy hye
        rw [← hye] at next
        refine gX8_chanceAbove_53 (fun g3 => gX8_chanceAbove_69 (gX8_chanceAbove_75 (gX8_chanceAbove_78 ?_))) (fun g3 => gX8_chanceAbove_63 (gX8_chanceAbove_75 (gX8_chanceAbove_78 ?_)))
        · rw [if_neg (fun z => g3 (by rw [z]; rfl))] at next
          rw [zx_16 hy, nI_l (by omega), lN_mul, nI_1]
          exact next
        · rw [if_pos ((nI_eq (b := 1) (by omega) (by decide)).mp g3)] at next
          rw [nI_l (by omega), lN_mul, nI_1]
          exact next
      refine gX8_chanceAbove_35 (k_isIn (by omega) (by omega)) (zq_i ?_)
      refine gX8_chanceAbove_41 (fun g3 => gX8_chanceAbove_51 (go lu hlu ?_)) (fun g3 => gX8_chanceAbove_44 ?_)
      · rw [if_neg (zi_0.mp g3)]
      · rw [zx_16 hsl]
        exact go (16 - sl) (by omega) (by rw [if_pos (zi_n0.mp g3)])
theorem k_chanceAbove {d : Nat} {a : zs_A} {v : zm_S} (h : zd_P a v) (hS : zd_S a v) {p s sl lu : Nat} (hp : p < 12) (hs : s < 128) (hsl : sl ≤ 16) (hlu : lu ≤ 16) : zm_C zd_H (d + 1) mX8_chanceAbove [.ref 0, .int (nI p), .int (nI s), .int (nI sl), .int (nI lu)] v (zq (.long (lN (zs_ca a p s sl lu (a.1 0 0)))) v) := by
  refine zm_C.of mtX8_chanceAbove.1.2.2.2.2.2.2 rfl (Nat.le_of_ble_eq_true rfl) ?_
  exact gX8_chanceAbove_0 (l_chanceAbove h hS hp hs hsl hlu (a.1 0 0) 0 (by omega))
theorem zx_le16 (s : Int32) : s ≤ 16 ↔ s < 17 := by rw [fa_le, fa_lt]; show s.toInt ≤ 16 ↔ s.toInt < 17; omega
theorem k_in16 {d : Nat} {w : zm_S} (s : Int32) : zm_C zd_H d mX8_in [.long s.toInt64, .long 0, .long 16] w (zq (.int (zi (0 ≤ s ∧ s < 17))) w) := by
  have h := k_inI (d := d) (w := w) s 0 16 rfl rfl
  rw [zi_cong (show (0 ≤ s ∧ s ≤ 16) ↔ (0 ≤ s ∧ s < 17) by rw [zx_le16])] at h
  exact h
theorem k_areLots {d : Nat} {w : zm_S} (x y : Int32) : zm_C zd_H (d + 1) mX8_areLots [.int x, .int y] w (zq (.int (zi ((0 ≤ x ∧ x < 17) ∧ 0 ≤ y ∧ y < 17))) w) := by
  refine zm_C.of mtX8_areLots.1.2.2.2.2.2.2 rfl (Nat.le_of_ble_eq_true rfl) ?_
  refine gX8_areLots_0 (k_in16 x) (zq_i ?_)
  refine gX8_areLots_9 (fun g => gX8_areLots_28 ?_) (fun g => ?_)
  · rw [zi_f (fun q => zi_0.mp g q.1)]
    exact zq_m _ _
  · refine gX8_areLots_12 (k_in16 y) (zq_i ?_)
    refine gX8_areLots_21 (fun g2 => gX8_areLots_28 ?_) (fun g2 => gX8_areLots_24 ?_)
    · rw [zi_f (fun q => zi_0.mp g2 q.2)]
      exact zq_m _ _
    · rw [zi_t ⟨zi_n0.mp g, zi_n0.mp g2⟩]
      exact zq_m _ _
def zs_cb (a : zs_A) (p : Nat) : Nat → Nat
  | 0 => 1
  | m + 1 => zs_cb a p m * (if zs_S a p m = 2 then 1 else 16)
theorem zs_cb_le (a : zs_A) (p : Nat) : ∀ m, zs_cb a p m ≤ 16 ^ m ∧ 0 < zs_cb a p m
  | 0 => ⟨Nat.le_refl _, show 0 < 1 by decide⟩
  | m + 1 => by
    have ih := zs_cb_le a p m
    rw [zs_cb, Nat.pow_succ]
    refine ⟨Nat.mul_le_mul ih.1 (by split <;> omega), Nat.mul_pos ih.2 (by split <;> omega)⟩
theorem zs_cb_lt (a : zs_A) (p : Nat) {m : Nat} (hm : m ≤ 7) : zs_cb a p m ≤ 268435456 := Nat.le_trans (zs_cb_le a p m).1 (Nat.pow_le_pow_right (n := 16) (j := 7) (by decide) hm)
def zs_lots (p s sl lu w : Int32) : Prop := (0 ≤ p ∧ p < 12) ∧ (0 ≤ s ∧ s < 128) ∧ ((0 ≤ sl ∧ sl < 17) ∧ 0 ≤ lu ∧ lu < 17) ∧ 0 ≤ w ∧ w < 2
def zs_chance (a : zs_A) (p s sl lu w : Int32) : Int64 :=
  if (0 ≤ p ∧ p < 12) ∧ (0 ≤ s ∧ s < 128) ∧ ((0 ≤ sl ∧ sl < 17) ∧ 0 ≤ lu ∧ lu < 17) ∧ 0 ≤ w ∧ w < 2 then lN (zs_fr (zs_ca a p.toNatClampNeg s.toNatClampNeg sl.toNatClampNeg lu.toNatClampNeg (a.1 0 0)) (zs_cb a p.toNatClampNeg (a.1 0 0)) w.toNatClampNeg) else zs_no (-2)
theorem l_chance {d : Nat} {a : zs_A} {v : zm_S} (h : zd_P a v) (hS : zd_S a v) {p : Nat} (hp : p < 12) {s sl lu w : Int32} {Q : Value → zm_S → Prop} (hk : zm_T zd_H (d + 1) mX8_chance Q 95 [(0, .ref 0), (1, .int (nI p)), (2, .int s), (3, .int sl), (4, .int lu), (5, .int w), (6, .long (lN (zs_cb a p (a.1 0 0))))] [] v) : ∀ (m k : Nat), k + m = a.1 0 0 → zm_T zd_H (d + 1) mX8_chance Q 52 [(0, .ref 0), (1, .int (nI p)), (2, .int s), (3, .int sl), (4, .int lu), (5, .int w), (6, .long (lN (zs_cb a p k))), (8, .int (nI k))] [] v := by
  intro m
  have hn := h.1.1
  induction m with
  | zero =>
    intro k hkm
    obtain rfl : k = a.1 0 0 := by omega
    refine gX8_chance_52 (k_n h) (zq_i ?_)
    exact gX8_chance_58 (fun _ => hk) (fun q => absurd (Int32.le_refl _) q)
  | succ m ih =>
    intro k hkm
    have next := ih (k + 1) (by omega)
    have hs3 := zs_S_lt h.1 p k
    have e : v.1 10 ((7 : Int32) * nI p + nI k).toNatClampNeg = nI (zs_S a p k) := by rw [zx_7, zx_clamp (by omega)]; exact hS p k hp (by omega)
    refine gX8_chance_52 (k_n h) (zq_i ?_)
    refine gX8_chance_58 (fun q => absurd q (nI_ge (by omega) (by omega))) (fun _ => ?_)
    refine gX8_chance_61 (by rw [zx_7]; exact vp_in_nI (by omega) (by decide)) (fun g => gX8_chance_83 (gX8_chance_86 ?_)) (fun g => gX8_chance_79 (gX8_chance_86 ?_))
    · rw [e] at g
      rw [zs_cb, if_neg (fun z => g (by rw [z]; rfl))] at next
      rw [show (16 : Int64) = lN 16 from rfl, lN_mul, nI_1]
      exact next
    · rw [e] at g
      rw [zs_cb, if_pos ((nI_eq (b := 2) (by omega) (by decide)).mp g)] at next
      rw [show (1 : Int64) = lN 1 from rfl, lN_mul, nI_1]
      exact next
theorem m_chance {d : Nat} {a : zs_A} {v : zm_S} (h : zd_P a v) (p s sl lu w : Int32) : zm_C zd_H (d + 3) mX8_chance [.ref 0, .int p, .int s, .int sl, .int lu, .int w] v (zp (.long (zs_chance a p s sl lu w)) (zd_P a)) := by
  refine zm_C.of mtX8_chance.1.2.2.2.2.2.2 rfl (Nat.le_of_ble_eq_true rfl) ?_
  have bad : ∀ (hb : ¬ ((0 ≤ p ∧ p < 12) ∧ (0 ≤ s ∧ s < 128) ∧ ((0 ≤ sl ∧ sl < 17) ∧ 0 ≤ lu ∧ lu < 17) ∧ 0 ≤ w ∧ w < 2)), zm_T zd_H (d + 3) mX8_chance (zp (.long (zs_chance a p s sl lu w)) (zd_P a)) 36 [] [] v := fun hb => gX8_chance_36 (k_no _) (zq_l (gX8_chance_41 (by rw [zs_chance, if_neg hb]; exact ⟨rfl, h⟩)))
  refine gX8_chance_0 (k_isPupil p) (zq_i ?_)
  refine gX8_chance_4 (fun g => bad (fun c => zi_0.mp g c.1)) (fun g1 => ?_)
  refine gX8_chance_7 (k_in127 s) (zq_i ?_)
  refine gX8_chance_16 (fun g => bad (fun c => zi_0.mp g c.2.1)) (fun g2 => ?_)
  refine gX8_chance_19 (k_areLots sl lu) (zq_i ?_)
  refine gX8_chance_25 (fun g => bad (fun c => zi_0.mp g c.2.2.1)) (fun g3 => ?_)
  refine gX8_chance_28 (k_isTwo2 w) (zq_i ?_)
  refine gX8_chance_33 (fun g4 => ?_) (fun g => bad (fun c => zi_0.mp g c.2.2.2))
  have hG := And.intro (zi_n0.mp g1) (And.intro (zi_n0.mp g2) (And.intro (zi_n0.mp g3) (zi_n0.mp g4)))
  obtain ⟨p, hp, rfl⟩ := zx_of (n := 12) hG.1 (by decide)
  obtain ⟨s, hs, rfl⟩ := zx_of (n := 128) hG.2.1 (by decide)
  obtain ⟨sl, hsl, rfl⟩ := zx_of (n := 17) hG.2.2.1.1 (by decide)
  obtain ⟨lu, hlu, rfl⟩ := zx_of (n := 17) hG.2.2.1.2 (by decide)
  obtain ⟨w, hw, rfl⟩ := zx_of (n := 2) hG.2.2.2 (by decide)
  refine gX8_chance_42 (k_findSays h) (zp_v (fun u hu => gX8_chance_46 ?_))
  have hn := h.1.1
  refine l_chance hu.1 hu.2 hp ?_ (a.1 0 0) 0 (by omega)
  have l1 := zs_ca_lt (a := a) (p := p) (s := s) (sl := sl) (lu := lu) (by omega) hn.2.1
  have l2 := zs_cb_lt a p hn.2.1
  refine gX8_chance_95 (k_chanceAbove hu.1 hu.2 hp hs (by omega) (by omega)) (zq_l ?_)
  refine gX8_chance_104 (k_part (by omega) (by omega) (zs_cb_le a p _).2 hw) (zq_l (gX8_chance_111 ?_))
  rw [zs_chance, if_pos hG, zx_clamp (by omega), zx_clamp (by omega), zx_clamp (by omega), zx_clamp (by omega), zx_clamp (by omega)]
  exact ⟨rfl, hu.1⟩
/-- all chances together -/
def zs_cs (a : zs_A) (p sl lu : Nat) : Nat → Nat
  | 0 => 0
  | k + 1 => zs_cs a p sl lu k + (if zs_st a k = true then zs_ca a p k sl lu (a.1 0 0) else 0)
theorem zs_cs_le {a : zs_A} (h : zs_ok a) {p sl lu : Nat} (hlu : lu ≤ 16) : ∀ k, zs_cs a p sl lu k ≤ k * 268435456
  | 0 => Nat.le_refl _
  | k + 1 => by
    have ih := zs_cs_le h (p := p) (sl := sl) hlu k
    have l1 := zs_ca_lt (a := a) (p := p) (s := k) (sl := sl) (lu := lu) hlu h.1.2.1
    rw [zs_cs, Nat.add_mul, Nat.one_mul]
    refine Nat.add_le_add ih ?_
    split
    · exact l1
    · exact Nat.zero_le _
def zs_share (a : zs_A) (p s sl lu w : Int32) : Int64 :=
  if (0 ≤ p ∧ p < 12) ∧ (0 ≤ s ∧ s < 128) ∧ ((0 ≤ sl ∧ sl < 17) ∧ 0 ≤ lu ∧ lu < 17) ∧ 0 ≤ w ∧ w < 2 then
    if zs_st a (s.toNatClampNeg &&& (2 ^ a.1 0 0 - 1)) = true then
      if zs_cs a p.toNatClampNeg sl.toNatClampNeg lu.toNatClampNeg (2 ^ a.1 0 0) = 0 then zs_no (-3)
      else lN (zs_fr (zs_ca a p.toNatClampNeg (s.toNatClampNeg &&& (2 ^ a.1 0 0 - 1)) sl.toNatClampNeg lu.toNatClampNeg (a.1 0 0)) (zs_cs a p.toNatClampNeg sl.toNatClampNeg lu.toNatClampNeg (2 ^ a.1 0 0)) w.toNatClampNeg)
    else zs_no (-2)
  else zs_no (-2)
theorem l_share {d : Nat} {a : zs_A} {v : zm_S} (h : zd_V a v) {p sl lu : Nat} (hp12 : p < 12) (hsl : sl ≤ 16) (hlu : lu ≤ 16) {w o : Int32} {Q : Value → zm_S → Prop} (hk : zm_T zd_H (d + 2) mX8_share Q 118 [(0, .ref 0), (1, .int (nI p)), (3, .int (nI sl)), (4, .int (nI lu)), (5, .int w), (6, .int o), (7, .long (lN (zs_cs a p sl lu (2 ^ a.1 0 0))))] [] v) : ∀ (m k : Nat), k + m = 2 ^ a.1 0 0 → zm_T zd_H (d + 2) mX8_share Q 75 [(0, .ref 0), (1, .int (nI p)), (3, .int (nI sl)), (4, .int (nI lu)), (5, .int w), (6, .int o), (7, .long (lN (zs_cs a p sl lu k))), (9, .int (nI k))] [] v := by
  intro m
  have hp := zn_pow h.1.1
  induction m with
  | zero =>
    intro k hkm
    obtain rfl : k = 2 ^ a.1 0 0 := by omega
    refine gX8_share_75 (k_whole h.1) (zq_i ?_)
    exact gX8_share_81 (fun _ => hk) (fun q => absurd (nI_lt (by omega) (by omega)) q)
  | succ m ih =>
    intro k hkm
    have next := ih (k + 1) (by omega)
    rw [zs_cs] at next
    refine gX8_share_75 (k_whole h.1) (zq_i ?_)
    refine gX8_share_81 (fun q => absurd q (nI_nlt (by omega) (by omega))) (fun _ => ?_)
    refine gX8_share_84 (k_isState h.1 h.2.2.2 (by omega)) (zq_i ?_)
    refine gX8_share_92 (fun g => gX8_share_108 (gX8_share_109 ?_)) (fun g => ?_)
    · rw [if_neg (zi_0.mp g)] at next
      rw [show (0 : Int64) = lN 0 from rfl, lN_add, nI_1]
      exact next
    · rw [if_pos (zi_n0.mp g)] at next
      refine gX8_share_95 (k_chanceAbove h.1 h.2.1 hp12 (by omega) hsl hlu) (zq_l (gX8_share_105 (gX8_share_109 ?_)))
      rw [lN_add, nI_1]
      exact next
theorem m_share {d : Nat} {a : zs_A} {v : zm_S} (h : zd_P a v) (p s sl lu w : Int32) : zm_C zd_H (d + 6) mX8_share [.ref 0, .int p, .int s, .int sl, .int lu, .int w] v (zp (.long (zs_share a p s sl lu w)) (zd_P a)) := by
  refine zm_C.of mtX8_share.1.2.2.2.2.2.2 rfl (Nat.le_of_ble_eq_true rfl) ?_
  have bad : ∀ (hb : ¬ ((0 ≤ p ∧ p < 12) ∧ (0 ≤ s ∧ s < 128) ∧ ((0 ≤ sl ∧ sl < 17) ∧ 0 ≤ lu ∧ lu < 17) ∧ 0 ≤ w ∧ w < 2)), zm_T zd_H (d + 6) mX8_share (zp (.long (zs_share a p s sl lu w)) (zd_P a)) 36 [] [] v := fun hb => gX8_share_36 (k_no _) (zq_l (gX8_share_41 (by rw [zs_share, if_neg hb]; exact ⟨rfl, h⟩)))
  refine gX8_share_0 (k_isPupil p) (zq_i ?_)
  refine gX8_share_4 (fun g => bad (fun c => zi_0.mp g c.1)) (fun g1 => ?_)
  refine gX8_share_7 (k_in127 s) (zq_i ?_)
  refine gX8_share_16 (fun g => bad (fun c => zi_0.mp g c.2.1)) (fun g2 => ?_)
  refine gX8_share_19 (k_areLots sl lu) (zq_i ?_)
  refine gX8_share_25 (fun g => bad (fun c => zi_0.mp g c.2.2.1)) (fun g3 => ?_)
  refine gX8_share_28 (k_isTwo2 w) (zq_i ?_)
  refine gX8_share_33 (fun g4 => ?_) (fun g => bad (fun c => zi_0.mp g c.2.2.2))
  have hG := And.intro (zi_n0.mp g1) (And.intro (zi_n0.mp g2) (And.intro (zi_n0.mp g3) (zi_n0.mp g4)))
  obtain ⟨p, hp, rfl⟩ := zx_of (n := 12) hG.1 (by decide)
  obtain ⟨s, hs, rfl⟩ := zx_of (n := 128) hG.2.1 (by decide)
  obtain ⟨sl, hsl, rfl⟩ := zx_of (n := 17) hG.2.2.1.1 (by decide)
  obtain ⟨lu, hlu, rfl⟩ := zx_of (n := 17) hG.2.2.1.2 (by decide)
  obtain ⟨w, hw, rfl⟩ := zx_of (n := 2) hG.2.2.2 (by decide)
  have hpw := zn_pow h.1
  rw [zs_share, if_pos hG, zx_clamp (by omega), zx_clamp (by omega), zx_clamp (by omega), zx_clamp (by omega), zx_clamp (by omega)]
  have hand := zy_and_lt (y := 2 ^ a.1 0 0 - 1) hs
  refine gX8_share_42 (k_findNeeds h) (zp_v (fun u hu => ?_))
  refine gX8_share_46 (k_whole hu.1) (zq_i ?_)
  refine gX8_share_51 (by rw [fa_and]; exact k_isState hu.1 hu.2.2.2 hand) (zq_i ?_)
  rw [fa_and]
  refine gX8_share_60 (fun g => gX8_share_69 ?_) (fun g => gX8_share_63 (k_no _) (zq_l (gX8_share_68 ?_)))
  rotate_left
  · rw [if_neg (zi_0.mp g)]
    exact ⟨rfl, hu.1⟩
  rw [if_pos (zi_n0.mp g)]
  refine l_share hu hp (by omega) (by omega) ?_ (2 ^ a.1 0 0) 0 (by omega)
  have hcs := zs_cs_le h.1 (p := p) (sl := sl) (lu := lu) (by omega) (2 ^ a.1 0 0)
  have hcs2 : zs_cs a p sl lu (2 ^ a.1 0 0) ≤ 128 * 268435456 := Nat.le_trans hcs (Nat.mul_le_mul_right _ hpw.2)
  have l1 := zs_ca_lt (a := a) (p := p) (s := s &&& (2 ^ a.1 0 0 - 1)) (sl := sl) (lu := lu) (by omega) h.1.1.2.1
  refine gX8_share_118 (fun g5 => ?_) (fun g5 => ?_)
  · rw [zl_cmp0, zl_0 (by omega)] at g5
    rw [if_neg g5]
    refine gX8_share_133 (k_chanceAbove hu.1 hu.2.1 hp hand (by omega) (by omega)) (zq_l ?_)
    refine gX8_share_143 (k_part (by omega) (by omega) (by omega) hw) (zq_l (gX8_share_150 ?_))
    exact ⟨rfl, hu.1⟩
  · rw [zl_cmp0, zl_0 (by omega)] at g5
    rw [if_pos g5]
    exact gX8_share_125 (k_no _) (zq_l (gX8_share_130 (gX8_share_150 ⟨rfl, hu.1⟩)))
def zs_lk (a : zs_A) (p sl lu : Nat) : Nat → Int32 × Int64
  | 0 => (-1, -1)
  | k + 1 => if (zs_lk a p sl lu k).2 < (if zs_st a k = true then lN (zs_ca a p k sl lu (a.1 0 0)) else -1) then (nI k, if zs_st a k = true then lN (zs_ca a p k sl lu (a.1 0 0)) else -1) else zs_lk a p sl lu k
theorem l_likeliest {d : Nat} {a : zs_A} {v : zm_S} (h : zd_V a v) {p sl lu : Nat} (hp12 : p < 12) (hsl : sl ≤ 16) (hlu : lu ≤ 16) : ∀ (m k : Nat), k + m = 2 ^ a.1 0 0 → zm_T zd_H (d + 2) mX8_likeliestOf (zq (.int (zs_lk a p sl lu (2 ^ a.1 0 0)).1) v) 15 [(0, .ref 0), (1, .int (nI p)), (2, .int (nI sl)), (3, .int (nI lu)), (4, .int (zs_lk a p sl lu k).1), (5, .long (zs_lk a p sl lu k).2), (7, .int (nI k))] [] v := by
  intro m
  have hp := zn_pow h.1.1
  induction m with
  | zero =>
    intro k hkm
    obtain rfl : k = 2 ^ a.1 0 0 := by omega
    refine gX8_likeliestOf_15 (k_whole h.1) (zq_i ?_)
    exact gX8_likeliestOf_21 (fun _ => gX8_likeliestOf_90 (zq_m _ _)) (fun q => absurd (nI_lt (by omega) (by omega)) q)
  | succ m ih =>
    intro k hkm
    have next := ih (k + 1) (by omega)
    refine gX8_likeliestOf_15 (k_whole h.1) (zq_i ?_)
    refine gX8_likeliestOf_21 (fun q => absurd q (nI_nlt (by omega) (by omega))) (fun _ => ?_)
    refine gX8_likeliestOf_24 (k_isState h.1 h.2.2.2 (by omega)) (zq_i ?_)
    have go : ∀ z, z = (if zs_st a k = true then lN (zs_ca a p k sl lu (a.1 0 0)) else -1) → zm_T zd_H (d + 2) mX8_likeliestOf (zq (.int (zs_lk a p sl lu (2 ^ a.1 0 0)).1) v) 48 [(0, .ref 0), (1, .int (nI p)), (2, .int (nI sl)), (3, .int (nI lu)), (4, .int (zs_lk a p sl lu k).1), (5, .long (zs_lk a p sl lu k).2), (7, .int (nI k))] [.long z] v := by
      intro z hz
      rw [zs_lk, ← hz] at next
      refine gX8_likeliestOf_48 (fun g => gX8_likeliestOf_63 (gX8_likeliestOf_65 (fun _ => gX8_likeliestOf_80 (gX8_likeliestOf_82 ?_)) (fun y => absurd g y))) (fun g => gX8_likeliestOf_58 (gX8_likeliestOf_65 (fun y => absurd y g) (fun _ => gX8_likeliestOf_75 (gX8_likeliestOf_82 ?_))))
      · rw [lg_cmp_le] at g
        rw [if_neg (Int64.not_lt.mpr g)] at next
        rw [nI_1]
        exact next
      · rw [lg_cmp_le] at g
        rw [if_pos (Int64.not_le.mp g)] at next
        rw [nI_1]
        exact next
    refine gX8_likeliestOf_30 (fun g => gX8_likeliestOf_45 (go _ ?_)) (fun g => ?_)
    · rw [if_neg (zi_0.mp g)]
    · refine gX8_likeliestOf_33 (k_chanceAbove h.1 h.2.1 hp12 (by omega) hsl hlu) (zq_l (gX8_likeliestOf_42 (go _ ?_)))
      rw [if_pos (zi_n0.mp g)]
theorem k_likeliestOf_g {d : Nat} {a : zs_A} {v : zm_S} (h : zd_P a v) {p sl lu : Nat} (hp12 : p < 12) (hsl : sl ≤ 16) (hlu : lu ≤ 16) : zm_C zd_H (d + 6) mX8_likeliestOf [.ref 0, .int (nI p), .int (nI sl), .int (nI lu)] v (zp (.int (zs_lk a p sl lu (2 ^ a.1 0 0)).1) (fun u => zd_V a u ∧ ∀ k, 14 ≤ k → u.1 k = v.1 k)) := by
  refine zm_C.of mtX8_likeliestOf.1.2.2.2.2.2.2 rfl (Nat.le_of_ble_eq_true rfl) ?_
  refine gX8_likeliestOf_0 (k_findNeeds_g h) (zp_v (fun u hu => gX8_likeliestOf_4 ?_))
  refine zm_T.post (fun r z hz => ?_) (l_likeliest hu.1 hp12 hsl hlu (2 ^ a.1 0 0) 0 (by omega))
  obtain ⟨q1, rfl⟩ := hz
  exact ⟨q1, hu⟩
theorem k_likeliestOf {d : Nat} {a : zs_A} {v : zm_S} (h : zd_P a v) {p sl lu : Nat} (hp12 : p < 12) (hsl : sl ≤ 16) (hlu : lu ≤ 16) : zm_C zd_H (d + 6) mX8_likeliestOf [.ref 0, .int (nI p), .int (nI sl), .int (nI lu)] v (zp (.int (zs_lk a p sl lu (2 ^ a.1 0 0)).1) (zd_V a)) := (k_likeliestOf_g h hp12 hsl hlu).post (fun _ _ q => ⟨q.1, q.2.1⟩)
def zs_likeliest (a : zs_A) (p sl lu : Int32) : Int32 := if (0 ≤ p ∧ p < 12) ∧ (0 ≤ sl ∧ sl < 17) ∧ 0 ≤ lu ∧ lu < 17 then (zs_lk a p.toNatClampNeg sl.toNatClampNeg lu.toNatClampNeg (2 ^ a.1 0 0)).1 else -2
theorem m_likeliest {d : Nat} {a : zs_A} {v : zm_S} (h : zd_P a v) (p sl lu : Int32) : zm_C zd_H (d + 7) mX8_likeliest [.ref 0, .int p, .int sl, .int lu] v (zp (.int (zs_likeliest a p sl lu)) (zd_P a)) := by
  refine zm_C.of mtX8_likeliest.1.2.2.2.2.2.2 rfl (Nat.le_of_ble_eq_true rfl) ?_
  have bad : ∀ (hb : ¬ ((0 ≤ p ∧ p < 12) ∧ (0 ≤ sl ∧ sl < 17) ∧ 0 ≤ lu ∧ lu < 17)), zm_T zd_H (d + 7) mX8_likeliest (zp (.int (zs_likeliest a p sl lu)) (zd_P a)) 25 [] [] v := fun hb => gX8_likeliest_25 (by rw [zs_likeliest, if_neg hb]; exact ⟨rfl, h⟩)
  refine gX8_likeliest_0 (k_isPupil p) (zq_i ?_)
  refine gX8_likeliest_4 (fun g => bad (fun c => zi_0.mp g c.1)) (fun g1 => ?_)
  refine gX8_likeliest_7 (k_areLots sl lu) (zq_i ?_)
  refine gX8_likeliest_12 (fun g => bad (fun c => zi_0.mp g c.2)) (fun g2 => ?_)
  have hG := And.intro (zi_n0.mp g1) (zi_n0.mp g2)
  obtain ⟨p, hp, rfl⟩ := zx_of (n := 12) hG.1 (by decide)
  obtain ⟨sl, hsl, rfl⟩ := zx_of (n := 17) hG.2.1 (by decide)
  obtain ⟨lu, hlu, rfl⟩ := zx_of (n := 17) hG.2.2 (by decide)
  refine gX8_likeliest_15 (k_likeliestOf h hp (by omega) (by omega)) (zp_i (fun u hu => gX8_likeliest_22 ?_))
  rw [zs_likeliest, if_pos hG, zx_clamp (by omega), zx_clamp (by omega), zx_clamp (by omega)]
  exact ⟨rfl, hu.1⟩
