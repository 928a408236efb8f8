theorem zx_nle {a b : Nat} (ha : a < 2 ^ 31) (hb : b < 2 ^ 31) (h : ¬ nI a ≤ nI b) : b < a := by
  rw [nI_leI ha hb] at h
  omega
/-- the loop of sheet(): the items of a new sheet are 0 -/
theorem l_sheet {d : Nat} {Q : Value → zm_S → Prop} {s n : Nat} (hs : s < 4) (hn : n ≤ 60) {v : zm_S} (hk : ∀ u : zm_S, (∀ k, k ≠ 3 → u.1 k = v.1 k) → (∀ b, b < n → u.1 3 (60 * s + b) = 0) → (∀ b, (b < 60 * s ∨ 60 * s + 60 ≤ b) → u.1 3 b = v.1 3 b) → Q (.int (nI n)) u) :
    ∀ (m i : Nat) (u : zm_S), i + m = n → (∀ k, k ≠ 3 → u.1 k = v.1 k) → (∀ b, b < i → u.1 3 (60 * s + b) = 0) → (∀ b, (b < 60 * s ∨ 60 * s + 60 ≤ b) → u.1 3 b = v.1 3 b) → zm_T zd_H d mX8_sheet Q 55 [(0, .ref 0), (1, .int (nI s)), (3, .int (nI n)), (4, .int (nI i))] [] u := by
  intro m
  induction m with
  | zero =>
    intro i u hi h1 h2 h3
    obtain rfl : i = n := by omega
    refine gX8_sheet_55 (fun h => gX8_sheet_80 (hk u h1 h2 h3)) (fun h => absurd (Int32.le_refl _) h)
  | succ m ih =>
    intro i u hi h1 h2 h3
    refine gX8_sheet_55 (fun h => absurd h (nI_ge (by omega) (by omega))) (fun h => ?_)
    refine gX8_sheet_61 (by rw [zx_idx hs (by omega)]; exact vp_in_nI (by omega) (by decide)) ?_
    rw [zx_idx hs (by omega), zx_clamp (by omega), nI_1]
    refine ih (i + 1) _ (by omega) (fun k hk => by rw [zm_pa_ne hk, h1 k hk]) (fun b hb => ?_) (fun b hb => ?_)
    · rw [zm_pa_at]
      by_cases e : b = i
      · rw [e, pk_us]
      · rw [pk_un (by omega)]
        exact h2 b (by omega)
    · rw [zm_pa_at, pk_un (by omega)]
      exact h3 b hb
theorem m_sheet {d : Nat} {a : zs_A} {v : zm_S} (h : zd_P a v) (s f n : Int32) : zm_C zd_H (d + 2) mX8_sheet [.ref 0, .int s, .int f, .int n] v (zp (.int (zs_sheet a s f n).1) (zd_P (zs_sheet a s f n).2)) := by
  refine zm_C.of mtX8_sheet.1.2.2.2.2.2.2 rfl (Nat.le_of_ble_eq_true rfl) ?_
  have bad : ∀ (hb : ¬ ((0 ≤ s ∧ s < 4) ∧ (0 ≤ f ∧ f < 3) ∧ n ≤ 60)), zp (.int (zs_sheet a s f n).1) (zd_P (zs_sheet a s f n).2) (.int (-2)) v := fun hb => by
    rw [zs_sheet, if_neg hb]
    exact ⟨rfl, h⟩
  refine gX8_sheet_0 (k_isSheet _) (zq_i ?_)
  refine gX8_sheet_4 (fun h4 => gX8_sheet_25 (bad (fun q => zi_0.mp h4 q.1))) (fun h4 => ?_)
  obtain ⟨j, hj, rfl⟩ := zx_of (n := 4) (zi_n0.mp h4) (by decide)
  refine gX8_sheet_7 (k_inI f 0 2 rfl rfl) (zq_i ?_)
  refine gX8_sheet_16 (fun h16 => gX8_sheet_25 (bad (fun q => zx_lt3n h16 q.2.1))) (fun h16 => ?_)
  obtain ⟨g, hg, rfl⟩ := zx_of (n := 3) (zx_lt3 h16) (by decide)
  refine gX8_sheet_19 (fun h19 => ?_) (fun h19 => gX8_sheet_25 (bad (fun q => h19 q.2.2)))
  have hG : (0 ≤ nI j ∧ nI j < 4) ∧ (0 ≤ nI g ∧ nI g < 3) ∧ n ≤ 60 := ⟨zi_n0.mp h4, zx_lt3 h16, h19⟩
  refine gX8_sheet_28 (fun h28 => ?_) (fun h28 => ?_)
  · obtain ⟨b, hb, rfl⟩ := zx_ofle (n := 60) ⟨h28, h19⟩ (by decide)
    have hcj : (nI j).toNatClampNeg = j := zx_clamp (by omega)
    have hcg : (nI g).toNatClampNeg = g := zx_clamp (by omega)
    have hcb : (nI b).toNatClampNeg = b := zx_clamp (by omega)
    refine gX8_sheet_38 (vp_in_nI hj (by decide)) (vp_in_nI hj (by decide)) ?_
    rw [hcj, show (0 : Int32) = nI 0 from rfl]
    refine l_sheet hj hb (fun u h1 h2 h3 => ?_) b 0 _ (by omega) (fun _ _ => rfl) (fun b hb => absurd hb (Nat.not_lt_zero b)) (fun _ _ => rfl)
    rw [zs_sheet, if_pos hG, if_neg (Int32.not_lt.mpr h28), hcj, hcg, hcb]
    refine ⟨rfl, ?_⟩
    obtain ⟨g0, g1, g2, g3, g4, g5⟩ := h
    have k1 : u.1 1 = upd (v.1 1) j (nI g) := by rw [h1 1 (by decide), zm_pa_ne (by decide), zm_pa_at]
    have k2 : u.1 2 = upd (v.1 2) j (nI b) := by rw [h1 2 (by decide), zm_pa_at, zm_pa_ne (by decide)]
    have k3 : ∀ k, k ≠ 1 → k ≠ 2 → k ≠ 3 → u.1 k = v.1 k := fun k q1 q2 q3 => by rw [h1 k q3, zm_pa_ne q2, zm_pa_ne q1]
    have k4 : ∀ c, (c < 60 * j ∨ 60 * j + 60 ≤ c) → u.1 3 c = v.1 3 c := fun c hc => by rw [h3 c hc, zm_pa_ne (by decide), zm_pa_ne (by decide)]
    refine ⟨⟨g0.1, g0.2.1, g0.2.2.1, fun s hs => ?_, g0.2.2.2.2⟩, ?_, ?_, ?_, fun s hs => ?_, ?_⟩
    · show zs_u (zs_u a.1 8 j (g + 1)) 9 j b 8 s ≤ 3 ∧ zs_u (zs_u a.1 8 j (g + 1)) 9 j b 9 s ≤ 60
      rw [zs_u_c (by decide)]
      by_cases e : s = j
      · rw [e, zs_u_same, zs_u_same]; omega
      · rw [zs_u_i e, zs_u_i e, zs_u_i e]; exact g0.2.2.2.1 s hs
    · unfold zd_1; rw [k3 5 (by decide) (by decide) (by decide)]; exact g1
    · unfold zd_2; rw [k3 0 (by decide) (by decide) (by decide), k3 6 (by decide) (by decide) (by decide), k3 7 (by decide) (by decide) (by decide), k3 8 (by decide) (by decide) (by decide), k3 9 (by decide) (by decide) (by decide)]; exact g2
    · unfold zd_3; rw [k3 0 (by decide) (by decide) (by decide), k3 11 (by decide) (by decide) (by decide)]; exact g3
    · show u.1 1 s = nI (zs_u (zs_u a.1 8 j (g + 1)) 9 j b 8 s) - 1 ∧ u.1 2 s = nI (zs_u (zs_u a.1 8 j (g + 1)) 9 j b 9 s) ∧ (zs_u (zs_u a.1 8 j (g + 1)) 9 j b 8 s ≠ 0 → ∀ i, i < zs_u (zs_u a.1 8 j (g + 1)) 9 j b 9 s → u.1 3 (60 * s + i) = if s = j then 0 else a.2 s i)
      rw [zs_u_c (by decide), k1, k2]
      by_cases e : s = j
      · rw [e, zs_u_same, zs_u_same, pk_us, pk_us]
        exact ⟨(nI_pred g).symm, rfl, fun _ i hi => by rw [if_pos rfl]; exact h2 i hi⟩
      · rw [zs_u_i e, zs_u_i e, zs_u_i e, pk_un e, pk_un e]
        obtain ⟨q1, q2, q3⟩ := g4 s hs
        have hq := (g0.2.2.2.1 s hs).2
        exact ⟨q1, q2, fun hn i hi => by rw [if_neg e, k4 _ (by omega)]; exact q3 hn i hi⟩
    · unfold zd_5; rw [k3 0 (by decide) (by decide) (by decide)]; exact g5
  · refine gX8_sheet_32 (k_met _) (zq_i ?_)
    refine gX8_sheet_37 ?_
    rw [zs_sheet, if_pos hG, if_pos (Int32.not_le.mp h28)]
    exact h.metp rfl (by decide)
/-! copy -/
def zs_copy (a : zs_A) (s i t j n : Int32) : Int32 × zs_A :=
  if (0 ≤ s ∧ s < 4) ∧ 0 ≤ t ∧ t < 4 then
    if a.1 8 s.toNatClampNeg = 0 ∨ a.1 8 t.toNatClampNeg = 0 then zs_met a 1
    else if a.1 8 s.toNatClampNeg ≠ a.1 8 t.toNatClampNeg then zs_met a 4
    else if (0 ≤ i ∧ 0 ≤ j ∧ 0 ≤ n) ∧ i.toNatClampNeg + n.toNatClampNeg ≤ a.1 9 s.toNatClampNeg ∧ j.toNatClampNeg + n.toNatClampNeg ≤ a.1 9 t.toNatClampNeg then
      (1, (a.1, fun s' b => if s' = t.toNatClampNeg ∧ j.toNatClampNeg ≤ b ∧ b < j.toNatClampNeg + n.toNatClampNeg then a.2 s.toNatClampNeg (i.toNatClampNeg + (b - j.toNatClampNeg)) else a.2 s' b))
    else zs_met a 2
  else (-2, a)
theorem zx_idx3 {s i k : Nat} : ((60 : Int32) * nI s + nI i) + nI k = nI (60 * s + i + k) := by
  rw [show (60 : Int32) = nI 60 from rfl, pk_mul, nI_add, nI_add]
/-- copy's first loop -/
theorem l_copy1 {d : Nat} {Q : Value → zm_S → Prop} {s i t j n : Nat} (hs : s < 4) (hn : i + n ≤ 60) {v : zm_S} (hk : ∀ u : zm_S, (∀ k, k ≠ 4 → u.1 k = v.1 k) → (∀ b, b < n → u.1 4 b = v.1 3 (60 * s + i + b)) → zm_T zd_H d mX8_copy Q 154 [(0, .ref 0), (3, .int (nI t)), (4, .int (nI j)), (5, .int (nI n))] [] u) :
    ∀ (m c : Nat) (u : zm_S), c + m = n → (∀ k, k ≠ 4 → u.1 k = v.1 k) → (∀ b, b < c → u.1 4 b = v.1 3 (60 * s + i + b)) → zm_T zd_H d mX8_copy Q 120 [(0, .ref 0), (1, .int (nI s)), (2, .int (nI i)), (3, .int (nI t)), (4, .int (nI j)), (5, .int (nI n)), (6, .int (nI c))] [] u := by
  intro m
  induction m with
  | zero =>
    intro c u hc h1 h2
    obtain rfl : c = n := by omega
    exact gX8_copy_120 (fun h => hk u h1 h2) (fun h => absurd (Int32.le_refl _) h)
  | succ m ih =>
    intro c u hc h1 h2
    refine gX8_copy_120 (fun h => absurd h (nI_ge (by omega) (by omega))) (fun h => ?_)
    refine gX8_copy_127 (by rw [zx_idx3]; exact vp_in_nI (by omega) (by decide)) (vp_in_nI (by omega) (by decide)) ?_
    rw [zx_idx3, zx_clamp (by omega), zx_clamp (by omega), nI_1]
    refine ih (c + 1) _ (by omega) (fun k hk => by rw [zm_pa_ne hk, h1 k hk]) (fun b hb => ?_)
    rw [zm_pa_at]
    by_cases e : b = c
    · rw [e, pk_us, h1 3 (by decide)]
    · rw [pk_un e]
      exact h2 b (by omega)
theorem l_copy2 {d : Nat} {Q : Value → zm_S → Prop} {t j n : Nat} (ht : t < 4) (hn : j + n ≤ 60) {v : zm_S} (hk : ∀ u : zm_S, (∀ k, k ≠ 3 → u.1 k = v.1 k) → (∀ b, b < n → u.1 3 (60 * t + j + b) = v.1 4 b) → (∀ b, (b < 60 * t + j ∨ 60 * t + j + n ≤ b) → u.1 3 b = v.1 3 b) → Q (.int 1) u) :
    ∀ (m c : Nat) (u : zm_S), c + m = n → (∀ k, k ≠ 3 → u.1 k = v.1 k) → (∀ b, b < c → u.1 3 (60 * t + j + b) = v.1 4 b) → (∀ b, (b < 60 * t + j ∨ 60 * t + j + n ≤ b) → u.1 3 b = v.1 3 b) → zm_T zd_H d mX8_copy Q 157 [(0, .ref 0), (3, .int (nI t)), (4, .int (nI j)), (5, .int (nI n)), (6, .int (nI c))] [] u := by
  intro m
  induction m with
  | zero =>
    intro c u hc h1 h2 h3
    obtain rfl : c = n := by omega
    exact gX8_copy_157 (fun h => gX8_copy_192 (hk u h1 h2 h3)) (fun h => absurd (Int32.le_refl _) h)
  | succ m ih =>
    intro c u hc h1 h2 h3
    refine gX8_copy_157 (fun h => absurd h (nI_ge (by omega) (by omega))) (fun h => ?_)
    refine gX8_copy_164 (vp_in_nI (by omega) (by decide)) (by rw [zx_idx3]; exact vp_in_nI (by omega) (by decide)) ?_
    rw [zx_idx3, zx_clamp (by omega), zx_clamp (by omega), nI_1]
    refine ih (c + 1) _ (by omega) (fun k hk => by rw [zm_pa_ne hk, h1 k hk]) (fun b hb => ?_) (fun b hb => ?_)
    · rw [zm_pa_at]
      by_cases e : b = c
      · rw [e, pk_us, h1 4 (by decide)]
      · rw [pk_un (by omega)]
        exact h2 b (by omega)
    · rw [zm_pa_at, pk_un (by omega)]
      exact h3 b hb
theorem zx_sum {i n m : Nat} {x y : Int32} (hx : x = nI i) (hy : y = nI n) (hi : i < 2 ^ 31) (hn : n < 2 ^ 31) (hm : m ≤ 60) : (0 < lg_cmp (x.toInt64 + y.toInt64) (nI m).toInt64) ↔ m < i + n := by
  subst hx hy
  rw [nI_l hi, nI_l hn, nI_l (by omega), lN_add]
  have h1 := lg_cmp_le (lN (i + n)) (lN m)
  rw [pk_lLE (by omega) (by omega)] at h1
  rw [← Int32.not_le, h1]
  omega
theorem m_copy {d : Nat} {a : zs_A} {v : zm_S} (h : zd_P a v) (s i t j n : Int32) : zm_C zd_H (d + 2) mX8_copy [.ref 0, .int s, .int i, .int t, .int j, .int n] v (zp (.int (zs_copy a s i t j n).1) (zd_P (zs_copy a s i t j n).2)) := by
  refine zm_C.of mtX8_copy.1.2.2.2.2.2.2 rfl (Nat.le_of_ble_eq_true rfl) ?_
  have bad : ∀ (hb : ¬ ((0 ≤ s ∧ s < 4) ∧ 0 ≤ t ∧ t < 4)), zp (.int (zs_copy a s i t j n).1) (zd_P (zs_copy a s i t j n).2) (.int (-2)) v := fun hb => by
    rw [zs_copy, if_neg hb]
    exact ⟨rfl, h⟩
  refine gX8_copy_0 (k_isSheet _) (zq_i ?_)
  refine gX8_copy_4 (fun h4 => gX8_copy_14 (bad (fun q => zi_0.mp h4 q.1))) (fun h4 => ?_)
  obtain ⟨s, hs, rfl⟩ := zx_of (n := 4) (zi_n0.mp h4) (by decide)
  refine gX8_copy_7 (k_isSheet _) (zq_i ?_)
  refine gX8_copy_11 (fun h11 => ?_) (fun h11 => gX8_copy_14 (bad (fun q => zi_0.mp h11 q.2)))
  obtain ⟨t, ht, rfl⟩ := zx_of (n := 4) (zi_n0.mp h11) (by decide)
  have hG : (0 ≤ nI s ∧ nI s < 4) ∧ 0 ≤ nI t ∧ nI t < 4 := ⟨zi_n0.mp h4, zi_n0.mp h11⟩
  have hcs : (nI s).toNatClampNeg = s := zx_clamp (by omega)
  have hct : (nI t).toNatClampNeg = t := zx_clamp (by omega)
  obtain ⟨s1, s2, s3⟩ := h.2.2.2.2.1 s hs
  obtain ⟨t1, t2, t3⟩ := h.2.2.2.2.1 t ht
  have fs := h.1.2.2.2.1 s hs
  have ft := h.1.2.2.2.1 t ht
  have nul : ∀ (hb : a.1 8 s = 0 ∨ a.1 8 t = 0), zm_T zd_H (d + 2) mX8_copy (zp (.int (zs_copy a (nI s) i (nI t) j n).1) (zd_P (zs_copy a (nI s) i (nI t) j n).2)) 35 [(0, .ref 0)] [] v := fun hb => by
    refine gX8_copy_35 (k_met _) (zq_i (gX8_copy_40 ?_))
    rw [zs_copy, if_pos hG, hcs, hct, if_pos hb]
    exact h.metp rfl (by decide)
  refine gX8_copy_17 (vp_in_nI hs (by decide)) (fun h17 => nul (Or.inl ?_)) (fun h17 => ?_)
  · rw [hcs, s1, ← Int32.not_le, zx_form _ (by omega)] at h17
    exact Decidable.not_not.mp h17
  rw [hcs, s1, Int32.not_lt, zx_form _ (by omega)] at h17
  refine gX8_copy_26 (vp_in_nI ht (by decide)) (fun h26 => ?_) (fun h26 => nul (Or.inr ?_))
  rotate_left
  · rw [hct, t1, zx_form _ (by omega)] at h26
    exact Decidable.not_not.mp h26
  rw [hct, t1, zx_form _ (by omega)] at h26
  have hO : ¬ (a.1 8 s = 0 ∨ a.1 8 t = 0) := fun q => q.elim h17 h26
  refine gX8_copy_41 (vp_in_nI hs (by decide)) (vp_in_nI ht (by decide)) (fun h41 => ?_) (fun h41 => ?_)
  rotate_left
  · refine gX8_copy_56 (k_met _) (zq_i (gX8_copy_61 ?_))
    rw [hcs, hct, s1, t1] at h41
    rw [zs_copy, if_pos hG, hcs, hct, if_neg hO, if_pos (fun q => h41 (by rw [q]))]
    exact h.metp rfl (by decide)
  rw [hcs, hct, s1, t1] at h41
  have hE : ¬ (a.1 8 s ≠ a.1 8 t) := by
    intro q
    obtain ⟨x, hx⟩ := Nat.exists_eq_succ_of_ne_zero h17
    obtain ⟨y, hy⟩ := Nat.exists_eq_succ_of_ne_zero h26
    rw [hx, hy, zx_form1, zx_form1, nI_eq (by omega) (by omega)] at h41
    omega
  have idx : ∀ (hb : ¬ ((0 ≤ i ∧ 0 ≤ j ∧ 0 ≤ n) ∧ i.toNatClampNeg + n.toNatClampNeg ≤ a.1 9 s ∧ j.toNatClampNeg + n.toNatClampNeg ≤ a.1 9 t)), zm_T zd_H (d + 2) mX8_copy (zp (.int (zs_copy a (nI s) i (nI t) j n).1) (zd_P (zs_copy a (nI s) i (nI t) j n).2)) 111 [(0, .ref 0)] [] v := fun hb => by
    refine gX8_copy_111 (k_met _) (zq_i (gX8_copy_116 ?_))
    rw [zs_copy, if_pos hG, hcs, hct, if_neg hO, if_neg hE, if_neg hb]
    exact h.metp rfl (by decide)
  refine gX8_copy_62 (fun h62 => idx (fun q => Int32.not_lt.mpr q.1.1 h62)) (fun h62 => ?_)
  refine gX8_copy_66 (fun h66 => idx (fun q => Int32.not_lt.mpr q.1.2.1 h66)) (fun h66 => ?_)
  refine gX8_copy_71 (fun h71 => idx (fun q => Int32.not_lt.mpr q.1.2.2 h71)) (fun h71 => ?_)
  obtain ⟨i, hi, rfl⟩ := nI_of h62
  obtain ⟨j, hj, rfl⟩ := nI_of h66
  obtain ⟨n, hn, rfl⟩ := nI_of h71
  have hci : (nI i).toNatClampNeg = i := zx_clamp (by omega)
  have hcj : (nI j).toNatClampNeg = j := zx_clamp (by omega)
  have hcn : (nI n).toNatClampNeg = n := zx_clamp (by omega)
  rw [hci, hcj, hcn] at idx
  refine gX8_copy_76 (vp_in_nI hs (by decide)) (fun h76 => idx ?_) (fun h76 => ?_)
  · rw [hcs, s2, zx_sum rfl rfl hi hn fs.2] at h76
    omega
  rw [hcs, s2, zx_sum rfl rfl hi hn fs.2] at h76
  refine gX8_copy_93 (vp_in_nI ht (by decide)) (fun h93 => ?_) (fun h93 => idx ?_)
  rotate_left
  · rw [Int32.not_le, hct, t2, zx_sum rfl rfl hj hn ft.2] at h93
    omega
  rw [← Int32.not_lt, hct, t2, zx_sum rfl rfl hj hn ft.2] at h93
  refine gX8_copy_117 ?_
  rw [show (0 : Int32) = nI 0 from rfl]
  refine l_copy1 hs (by omega) (fun u h1 h2 => ?_) n 0 v (by omega) (fun _ _ => rfl) (fun b hb => absurd hb (Nat.not_lt_zero b))
  refine gX8_copy_154 ?_
  rw [show (0 : Int32) = nI 0 from rfl]
  refine l_copy2 ht (by omega) (fun z k1 k2 k3 => ?_) n 0 u (by omega) (fun _ _ => rfl) (fun b hb => absurd hb (Nat.not_lt_zero b)) (fun _ _ => rfl)
  rw [zs_copy, if_pos hG, hcs, hct, hci, hcj, hcn, if_neg hO, if_neg hE, if_pos ⟨⟨Int32.not_lt.mp h62, Int32.not_lt.mp h66, Int32.not_lt.mp h71⟩, by omega, by omega⟩]
  refine ⟨rfl, ?_⟩
  obtain ⟨g0, g1, g2, g3, g4, g5⟩ := h
  have kk : ∀ k, k ≠ 3 → k ≠ 4 → z.1 k = v.1 k := fun k q1 q2 => by rw [k1 k q1, h1 k q2]
  have hne : a.1 8 s = a.1 8 t := Decidable.not_not.mp hE
  refine ⟨g0, ?_, ?_, ?_, fun c hc => ?_, ?_⟩
  · unfold zd_1; rw [kk 5 (by decide) (by decide)]; exact g1
  · unfold zd_2; rw [kk 0 (by decide) (by decide), kk 6 (by decide) (by decide), kk 7 (by decide) (by decide), kk 8 (by decide) (by decide), kk 9 (by decide) (by decide)]; exact g2
  · unfold zd_3; rw [kk 0 (by decide) (by decide), kk 11 (by decide) (by decide)]; exact g3
  · obtain ⟨q1, q2, q3⟩ := g4 c hc
    have hq := (g0.2.2.2.1 c hc).2
    refine ⟨by rw [kk 1 (by decide) (by decide)]; exact q1, by rw [kk 2 (by decide) (by decide)]; exact q2, fun hz b hb => ?_⟩
    show z.1 3 (60 * c + b) = if c = t ∧ j ≤ b ∧ b < j + n then a.2 s (i + (b - j)) else a.2 c b
    have hb : b < a.1 9 c := hb
    by_cases e : c = t ∧ j ≤ b ∧ b < j + n
    · rw [if_pos e, e.1, show 60 * t + b = 60 * t + j + (b - j) by omega, k2 _ (by omega), h2 _ (by omega), show 60 * s + i + (b - j) = 60 * s + (i + (b - j)) by omega]
      exact s3 h17 _ (by omega)
    · rw [if_neg e, k3 _ (by omega), h1 3 (by decide)]
      exact q3 hz b hb
  · unfold zd_5; rw [kk 0 (by decide) (by decide)]; exact g5
