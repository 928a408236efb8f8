theorem zm_pa_at (w : zm_S) (k : Nat) (f : Nat → Int32) : (zm_pa w k f).1 k = f := if_pos rfl
theorem zm_pa_ne {w : zm_S} {k k' : Nat} {f : Nat → Int32} (h : k' ≠ k) : (zm_pa w k f).1 k' = w.1 k' := if_neg h
def zs_lackr (L : Nat) : Int32 := if L = 0 then 0 else -10 - nI L
theorem zs_lackr0 : ∀ L, L < 6 → (zs_lackr L = 0 ↔ L = 0) := by decide
theorem zs_lack_le (a : zs_A) (s f i : Int32) : zs_lack a s f i < 4 := by
  unfold zs_lack
  split
  · decide
  · split
    · decide
    · split <;> decide
theorem zx_ltn {i : Int32} {n : Nat} (hn : n ≤ 60) : (0 ≤ i ∧ i ≤ nI n - 1) ↔ (0 ≤ i ∧ i < nI n) := by
  have e : (nI n - 1).toInt = (n : Int) - 1 := pk_sub_toInt (a := n) (b := 1) (by omega) (by omega)
  rw [fa_le _ (nI n - 1), fa_lt i, e, nI_toInt (by omega)]
  constructor
  · rintro ⟨h1, h2⟩; exact ⟨h1, by omega⟩
  · rintro ⟨h1, h2⟩; exact ⟨h1, by omega⟩
theorem k_lacks {d : Nat} {a : zs_A} {v : zm_S} (h : zd_P a v) {j : Nat} (hj : j < 4) (f i : Int32) : zm_C zd_H (d + 1) mX8_lacks [.ref 0, .int (nI j), .int f, .int i] v (zp (.int (zs_lackr (zs_lack a (nI j) f i))) (zd_P (if zs_lack a (nI j) f i = 0 then a else zs_late a (zs_lack a (nI j) f i)))) := by
  refine zm_C.of mtX8_lacks.1.2.2.2.2.2.2 rfl (Nat.le_of_ble_eq_true rfl) ?_
  obtain ⟨e1, e2, e3⟩ := h.2.2.2.2.1 j hj
  have hf := h.1.2.2.2.1 j hj
  have hc : (nI j).toNatClampNeg = j := zx_clamp (by omega)
  have key : ∀ L, L < 4 → L ≠ 0 → zs_lack a (nI j) f i = L → zp (.int (zs_lackr (zs_lack a (nI j) f i))) (zd_P (if zs_lack a (nI j) f i = 0 then a else zs_late a (zs_lack a (nI j) f i))) (.int (-10 - nI L)) (zm_pi v 0 4 (nI L)) := by
    intro L hL h0 e
    rw [e, zs_lackr, if_neg h0, if_neg h0]
    exact ⟨rfl, h.late (by omega)⟩
  refine gX8_lacks_0 (by exact vp_in_nI hj (by decide)) (fun h0 => ?_) (fun h0 => ?_)
  · refine gX8_lacks_15 (by exact vp_in_nI hj (by decide)) (fun h15 => ?_) (fun h15 => ?_)
    · refine gX8_lacks_31 (by exact vp_in_nI hj (by decide)) (k_inI i 0 _ rfl rfl) (zq_i ?_)
      refine gX8_lacks_46 (fun h46 => ?_) (fun h46 => ?_)
      · refine gX8_lacks_53 (k_met _) (zq_i ?_)
        refine gX8_lacks_58 ?_
        rw [hc, e1] at h0 h15
        rw [zx_form _ (by omega)] at h0
        rw [hc, e2, zi_cong (zx_ltn hf.2)] at h46
        first
          | (have hz : zs_lack a (nI j) f i = 0 := by rw [zs_lack, hc, if_neg h0, if_neg (by simpa using h15), if_pos (zi_n0.mp h46)]
             rw [hz]
             exact ⟨rfl, h⟩)
          | exact key 2 (by decide) (by decide) (by rw [zs_lack, hc, if_neg h0, if_neg (by simpa using h15), if_neg (zi_0.mp h46)])
      · refine gX8_lacks_49 ?_
        refine gX8_lacks_58 ?_
        rw [hc, e1] at h0 h15
        rw [zx_form _ (by omega)] at h0
        rw [hc, e2, zi_cong (zx_ltn hf.2)] at h46
        first
          | (have hz : zs_lack a (nI j) f i = 0 := by rw [zs_lack, hc, if_neg h0, if_neg (by simpa using h15), if_pos (zi_n0.mp h46)]
             rw [hz]
             exact ⟨rfl, h⟩)
          | exact key 2 (by decide) (by decide) (by rw [zs_lack, hc, if_neg h0, if_neg (by simpa using h15), if_neg (zi_0.mp h46)])
    · refine gX8_lacks_25 (k_met _) (zq_i ?_)
      refine gX8_lacks_30 ?_
      rw [hc, e1] at h0 h15
      rw [zx_form _ (by omega)] at h0
      exact key 3 (by decide) (by decide) (by rw [zs_lack, hc, if_neg h0, if_pos h15])
  · refine gX8_lacks_9 (k_met _) (zq_i ?_)
    refine gX8_lacks_14 ?_
    rw [hc, e1, zx_form _ (by omega)] at h0
    exact key 1 (by decide) (by decide) (by rw [zs_lack, hc, if_pos (Decidable.not_not.mp h0)])
theorem zx_lt3 {f : Int32} (h : ¬ zi (0 ≤ f ∧ f ≤ 2) = 0) : 0 ≤ f ∧ f < 3 := by
  have := zi_n0.mp h
  rwa [zx_le2] at this
theorem zx_lt3n {f : Int32} (h : zi (0 ≤ f ∧ f ≤ 2) = 0) : ¬ (0 ≤ f ∧ f < 3) := by
  have := zi_0.mp h
  rwa [zx_le2] at this
/-- an item is written -/
theorem zd_P.put {a : zs_A} {v : zm_S} (h : zd_P a v) {j i : Nat} (hj : j < 4) (hi : i < a.1 9 j) (x : Int32) : zd_P (a.1, zs_put a.2 j i x) (zm_pi v 3 (60 * j + i) x) := by
  obtain ⟨g0, g1, g2, g3, g4, g5⟩ := h
  refine ⟨g0, g1, g2, g3, fun s hs => ⟨(g4 s hs).1, (g4 s hs).2.1, fun hn b hb => ?_⟩, g5⟩
  have hb2 := (g0.2.2.2.1 s hs).2
  have hb3 := (g0.2.2.2.1 j hj).2
  have hb : b < a.1 9 s := hb
  show (zm_pi v 3 (60 * j + i) x).1 3 (60 * s + b) = zs_put a.2 j i x s b
  rw [zm_pa_at, zs_put]
  by_cases e : s = j ∧ b = i
  · rw [if_pos e, e.1, e.2, pk_us]
  · rw [if_neg e, pk_un (by omega)]
    exact (g4 s hs).2.2 hn b hb
theorem zs_lack_0 {a : zs_A} {j : Nat} {f i : Int32} (hj : j < 4) (h : zs_lack a (nI j) f i = 0) (hk : zs_ok a) : a.1 8 j ≠ 0 ∧ nI (a.1 8 j) - 1 = f ∧ ∃ b : Nat, b < a.1 9 j ∧ i = nI b := by
  have hc : (nI j).toNatClampNeg = j := zx_clamp (by omega)
  have hs := (hk.2.2.2.1 j hj).2
  unfold zs_lack at h
  rw [hc] at h
  split at h
  · cases h
  · split at h
    · cases h
    · split at h
      · rename_i q1 q2 q3
        exact ⟨q1, by simpa using q2, zx_of q3 (by omega)⟩
      · cases h
theorem m_lay {d : Nat} {a : zs_A} {v : zm_S} (h : zd_P a v) (s f i x : Int32) : zm_C zd_H (d + 2) mX8_lay [.ref 0, .int s, .int f, .int i, .int x] v (zp (.int (zs_lay a s f i x).1) (zd_P (zs_lay a s f i x).2)) := by
  refine zm_C.of mtX8_lay.1.2.2.2.2.2.2 rfl (Nat.le_of_ble_eq_true rfl) ?_
  have bad : ∀ (hb : ¬ ((0 ≤ s ∧ s < 4) ∧ 0 ≤ f ∧ f < 3)), zp (.int (zs_lay a s f i x).1) (zd_P (zs_lay a s f i x).2) (.int (-2)) v := fun hb => by
    rw [zs_lay, if_neg hb]
    exact ⟨rfl, h⟩
  refine gX8_lay_0 (k_isSheet _) (zq_i ?_)
  refine gX8_lay_4 (fun h4 => gX8_lay_19 (bad (fun q => zi_0.mp h4 q.1))) (fun h4 => ?_)
  obtain ⟨j, hj, rfl⟩ := zx_of (n := 4) (zi_n0.mp h4) (by decide)
  refine gX8_lay_7 (k_inI f 0 2 rfl rfl) (zq_i ?_)
  refine gX8_lay_16 (fun h16 => ?_) (fun h16 => gX8_lay_19 (bad (fun q => zx_lt3n h16 q.2)))
  have hg : (0 ≤ nI j ∧ nI j < 4) ∧ 0 ≤ f ∧ f < 3 := ⟨zi_n0.mp h4, zx_lt3 h16⟩
  have hL := zs_lack_le a (nI j) f i
  have hc : (nI j).toNatClampNeg = j := zx_clamp (by omega)
  refine gX8_lay_22 (k_lacks h hj f i) (zp_i (fun u hu => ?_))
  refine gX8_lay_29 (fun h29 => ?_) (fun h29 => ?_)
  · rw [zs_lackr0 _ (by omega)] at h29
    rw [if_pos h29] at hu
    obtain ⟨q1, q2, b, hb, rfl⟩ := zs_lack_0 hj h29 h.1
    have hbs := (h.1.2.2.2.1 j hj).2
    have hcb : (nI b).toNatClampNeg = b := zx_clamp (by omega)
    refine gX8_lay_39 (k_cut _ _) (zq_i ?_)
    rw [zx_idx hj (by omega)]
    refine gX8_lay_55 (vp_in_nI (by omega) (by decide)) ?_
    rw [zs_lay, if_pos hg, if_pos h29, hc, hcb, zx_clamp (by omega)]
    exact ⟨rfl, hu.put hj hb _⟩
  · refine gX8_lay_36 ?_
    have h30 : zs_lack a (nI j) f i ≠ 0 := fun q => h29 ((zs_lackr0 _ (by omega)).mpr q)
    rw [if_neg h30] at hu
    rw [zs_lay, if_pos hg, if_neg h30, zs_lackr, if_neg h30]
    exact ⟨rfl, hu⟩
theorem m_get {d : Nat} {a : zs_A} {v : zm_S} (h : zd_P a v) (s f i : Int32) : zm_C zd_H (d + 2) mX8_get [.ref 0, .int s, .int f, .int i] v (zp (.int (zs_get a s f i).1) (zd_P (zs_get a s f i).2)) := by
  refine zm_C.of mtX8_get.1.2.2.2.2.2.2 rfl (Nat.le_of_ble_eq_true rfl) ?_
  have bad : ∀ (hb : ¬ ((0 ≤ s ∧ s < 4) ∧ 0 ≤ f ∧ f < 3)), zp (.int (zs_get a s f i).1) (zd_P (zs_get a s f i).2) (.int (-2147483648)) v := fun hb => by
    rw [zs_get, if_neg hb]
    exact ⟨rfl, h⟩
  refine gX8_get_0 (k_isSheet _) (zq_i ?_)
  refine gX8_get_4 (fun h4 => gX8_get_29 (bad (fun q => zi_0.mp h4 q.1))) (fun h4 => ?_)
  obtain ⟨j, hj, rfl⟩ := zx_of (n := 4) (zi_n0.mp h4) (by decide)
  refine gX8_get_7 (k_inI f 0 2 rfl rfl) (zq_i ?_)
  refine gX8_get_16 (fun h16 => gX8_get_29 (bad (fun q => zx_lt3n h16 q.2))) (fun h16 => ?_)
  have hg : (0 ≤ nI j ∧ nI j < 4) ∧ 0 ≤ f ∧ f < 3 := ⟨zi_n0.mp h4, zx_lt3 h16⟩
  have hL := zs_lack_le a (nI j) f i
  have hc : (nI j).toNatClampNeg = j := zx_clamp (by omega)
  refine gX8_get_19 (k_lacks h hj f i) (zp_i (fun u hu => ?_))
  refine gX8_get_26 (fun h29 => ?_) (fun h29 => ?_)
  · rw [zs_lackr0 _ (by omega)] at h29
    rw [if_pos h29] at hu
    obtain ⟨q1, q2, b, hb, rfl⟩ := zs_lack_0 hj h29 h.1
    have hbs := (h.1.2.2.2.1 j hj).2
    have hcb : (nI b).toNatClampNeg = b := zx_clamp (by omega)
    have e := (hu.2.2.2.2.1 j hj).2.2 q1 b hb
    refine gX8_get_32 (by rw [zx_idx hj (by omega)]; exact vp_in_nI (by omega) (by decide)) ?_
    rw [zx_idx hj (by omega), zx_clamp (by omega), e, zs_get, if_pos hg, if_pos h29, hc, hcb]
    exact ⟨rfl, hu⟩
  · refine gX8_get_29 ?_
    have h30 : zs_lack a (nI j) f i ≠ 0 := fun q => h29 ((zs_lackr0 _ (by omega)).mpr q)
    rw [if_neg h30] at hu
    rw [zs_get, if_pos hg, if_neg h30]
    exact ⟨rfl, hu⟩
