theorem zx_le3 (s : Int32) : s ≤ 3 ↔ s < 4 := by rw [fa_le, fa_lt]; show s.toInt ≤ 3 ↔ s.toInt < 4; omega
theorem zx_le2 (s : Int32) : s ≤ 2 ↔ s < 3 := by rw [fa_le, fa_lt]; show s.toInt ≤ 2 ↔ s.toInt < 3; omega
theorem zx_le11 (s : Int32) : s ≤ 11 ↔ s < 12 := by rw [fa_le, fa_lt]; show s.toInt ≤ 11 ↔ s.toInt < 12; omega
theorem zx_le6 (s : Int32) : s ≤ 6 ↔ s < 7 := by rw [fa_le, fa_lt]; show s.toInt ≤ 6 ↔ s.toInt < 7; omega
theorem zx_le1 (s : Int32) : s ≤ 1 ↔ s < 2 := by rw [fa_le, fa_lt]; show s.toInt ≤ 1 ↔ s.toInt < 2; omega
/-- 'in' over ints -/
theorem k_inI {d : Nat} {w : zm_S} (a lo hi : Int32) {L H : Int64} (hL : lo.toInt64 = L) (hH : hi.toInt64 = H) : zm_C zd_H d mX8_in [.long a.toInt64, .long L, .long H] w (zq (.int (zi (lo ≤ a ∧ a ≤ hi))) w) := by
  subst hL hH
  have h := k_in (d := d) (w := w) a.toInt64 lo.toInt64 hi.toInt64
  rw [zi_cong (zx_64 a lo hi)] at h
  exact h
theorem k_isSheet {d : Nat} {w : zm_S} (a : Int32) : zm_C zd_H (d + 1) mX8_isSheet [.int a] w (zq (.int (zi (0 ≤ a ∧ a < 4))) w) := by
  refine zm_C.of mtX8_isSheet.1.2.2.2.2.2.2 rfl (Nat.le_of_ble_eq_true rfl) ?_
  refine gX8_isSheet_0 (k_inI a 0 3 rfl rfl) (zq_i ?_)
  refine gX8_isSheet_9 zi_and ?_
  rw [zi_cong (show (0 ≤ a ∧ a ≤ 3) ↔ (0 ≤ a ∧ a < 4) by rw [zx_le3])]
  exact zq_m _ _
theorem k_isPupil {d : Nat} {w : zm_S} (a : Int32) : zm_C zd_H (d + 1) mX8_isPupil [.int a] w (zq (.int (zi (0 ≤ a ∧ a < 12))) w) := by
  refine zm_C.of mtX8_isPupil.1.2.2.2.2.2.2 rfl (Nat.le_of_ble_eq_true rfl) ?_
  refine gX8_isPupil_0 (k_inI a 0 11 rfl rfl) (zq_i ?_)
  refine gX8_isPupil_9 zi_and ?_
  rw [zi_cong (show (0 ≤ a ∧ a ≤ 11) ↔ (0 ≤ a ∧ a < 12) by rw [zx_le11])]
  exact zq_m _ _
theorem k_isAny {d : Nat} {w : zm_S} (a : Int32) : zm_C zd_H (d + 1) mX8_isAny [.int a] w (zq (.int (zi (0 ≤ a ∧ a < 7))) w) := by
  refine zm_C.of mtX8_isAny.1.2.2.2.2.2.2 rfl (Nat.le_of_ble_eq_true rfl) ?_
  refine gX8_isAny_0 (k_inI a 0 6 rfl rfl) (zq_i ?_)
  refine gX8_isAny_9 zi_and ?_
  rw [zi_cong (show (0 ≤ a ∧ a ≤ 6) ↔ (0 ≤ a ∧ a < 7) by rw [zx_le6])]
  exact zq_m _ _
theorem k_met {d : Nat} {w : zm_S} (x : Int32) : zm_C zd_H d mX8_met [.ref 0, .int x] w (zq (.int (-10 - x)) (zm_pi w 0 4 x)) := by
  refine zm_C.of mtX8_met.1.2.2.2.2.2.2 rfl (Nat.le_of_ble_eq_true rfl) ?_
  refine gX8_met_0 ?_
  exact zq_m _ _
theorem k_cut {d : Nat} {w : zm_S} (f x : Int32) : zm_C zd_H d mX8_cut [.int f, .int x] w (zq (.int (zs_cut f x)) w) := by
  refine zm_C.of mtX8_cut.1.2.2.2.2.2.2 rfl (Nat.le_of_ble_eq_true rfl) ?_
  refine gX8_cut_0 (fun h0 => ?_) (fun h0 => ?_)
  · refine gX8_cut_9 (fun h9 => ?_) (fun h9 => ?_)
    · refine gX8_cut_19 ?_
      rw [zs_cut, if_neg h0, if_neg h9]
      exact zq_m _ _
    · refine gX8_cut_14 ?_
      rw [zs_cut, if_neg h0, if_pos h9]
      exact zq_m _ _
  · refine gX8_cut_4 ?_
    rw [zs_cut, if_pos h0]
    exact zq_m _ _
theorem zs_late_ok {a : zs_A} (h : zs_ok a) {k : Nat} (hk : k ≤ 5) : zs_ok (zs_late a k) := by
  obtain ⟨h1, h2, h3, h4, h5⟩ := h
  exact ⟨h1, h2, h3, h4, hk⟩
theorem zd_P.late {a : zs_A} {v : zm_S} (h : zd_P a v) {k : Nat} (hk : k ≤ 5) : zd_P (zs_late a k) (zm_pi v 0 4 (nI k)) := by
  obtain ⟨h0, h1, h2, h3, h4, h5⟩ := h
  exact ⟨zs_late_ok h0 hk, h1, h2, h3, h4, rfl⟩
theorem zd_P.metp {a : zs_A} {v : zm_S} (h : zd_P a v) {k : Nat} {x : Int32} (hx : x = nI k) (hk : k ≤ 5) : zp (.int (zs_met a k).1) (zd_P (zs_met a k).2) (.int (-10 - x)) (zm_pi v 0 4 x) := by
  subst hx
  exact ⟨rfl, h.late hk⟩
theorem m_lose {d : Nat} {a : zs_A} {v : zm_S} (h : zd_P a v) (s : Int32) : zm_C zd_H (d + 2) mX8_lose [.ref 0, .int s] v (zp (.int (zs_lose a s).1) (zd_P (zs_lose a s).2)) := by
  refine zm_C.of mtX8_lose.1.2.2.2.2.2.2 rfl (Nat.le_of_ble_eq_true rfl) ?_
  by_cases hs : 0 ≤ s ∧ s < 4
  · obtain ⟨j, hj, rfl⟩ := zx_of (n := 4) hs (by decide)
    obtain ⟨e1, e2, e3⟩ := h.2.2.2.2.1 j hj
    have hf := (h.1.2.2.2.1 j hj).1
    have hc : (nI j).toNatClampNeg = j := zx_clamp (by omega)
    have hzi := zi_t hs
    refine gX8_lose_0 (k_isSheet _) (zq_i ?_)
    refine gX8_lose_4 (fun h4 => ?_) (fun h4 => ?_)
    · refine gX8_lose_10 (by exact vp_in_nI hj (by decide)) (fun h10 => ?_) (fun h10 => ?_)
      · refine gX8_lose_25 (by exact vp_in_nI hj (by decide)) (by exact vp_in_nI hj (by decide)) ?_
        rw [hc, e1, zx_form _ (by omega)] at h10
        rw [zs_lose, if_pos hs, hc, if_neg h10]
        refine ⟨by rw [e2], ?_⟩
        obtain ⟨g0, g1, g2, g3, g4, g5⟩ := h
        refine ⟨⟨g0.1, g0.2.1, g0.2.2.1, fun s hs => ?_, g0.2.2.2.2⟩, g1, g2, g3, fun s hs => ?_, g5⟩
        · show zs_u a.1 8 j 0 8 s ≤ 3 ∧ _
          by_cases hsj : s = j
          · rw [hsj, zs_u_same]; exact ⟨by omega, (g0.2.2.2.1 j hj).2⟩
          · rw [zs_u_i hsj]; exact g0.2.2.2.1 s hs
        · show (zm_pi v 1 j (-1)).1 1 s = nI (zs_u a.1 8 j 0 8 s) - 1 ∧ v.1 2 s = nI (a.1 9 s) ∧ (zs_u a.1 8 j 0 8 s ≠ 0 → _)
          by_cases hsj : s = j
          · rw [hsj, zs_u_same]
            exact ⟨by rw [zm_pa_fst, if_pos rfl, pk_us]; rfl, e2, fun q => absurd rfl q⟩
          · rw [zs_u_i hsj, zm_pa_fst, if_pos rfl, pk_un hsj]
            exact g4 s hs
      · refine gX8_lose_19 (k_met _) (zq_i ?_)
        refine gX8_lose_24 ?_
        rw [zs_lose, if_pos hs, hc, if_pos (by rw [hc, e1, zx_form _ (by omega)] at h10; exact Decidable.not_not.mp h10)]
        exact h.metp rfl (by decide)
    · refine gX8_lose_7 ?_
      exact absurd h4 (zi_n0.mpr hs)
  · refine gX8_lose_0 (k_isSheet _) (zq_i ?_)
    refine gX8_lose_4 (fun h4 => absurd h4 (by rw [zi_n0]; exact hs)) (fun h4 => ?_)
    refine gX8_lose_7 ?_
    rw [zs_lose, if_neg hs]
    exact ⟨rfl, h⟩
