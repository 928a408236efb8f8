/-! ===== write, count ===== -/
def zs_wr (a : zs_A) (s m : Nat) : Nat → Nat → Int32 := fun s' b => if s' = s ∧ b < m then zs_cut (nI (a.1 8 s) - 1) (zs_blw a b 0) else a.2 s' b
def zs_write (a : zs_A) (s : Int32) : Int32 × zs_A :=
  if 0 ≤ s ∧ s < 4 then
    if a.1 8 s.toNatClampNeg = 0 then zs_met a 1
    else (nI (min (a.1 9 s.toNatClampNeg) 12), (a.1, zs_wr a s.toNatClampNeg (min (a.1 9 s.toNatClampNeg) 12)))
  else (-2, a)
theorem zs_wr_1 (a : zs_A) (s m : Nat) : zs_put (zs_wr a s m) s m (zs_cut (nI (a.1 8 s) - 1) (zs_blw a m 0)) = zs_wr a s (m + 1) := by
  funext s' b
  unfold zs_put zs_wr
  by_cases e : s' = s ∧ b = m
  · rw [if_pos e, if_pos ⟨e.1, by omega⟩, e.2]
  · rw [if_neg e]
    by_cases e2 : s' = s ∧ b < m
    · rw [if_pos e2, if_pos ⟨e2.1, by omega⟩]
    · rw [if_neg e2, if_neg (fun z => by
        by_cases q : b = m
        · exact e ⟨z.1, q⟩
        · exact e2 ⟨z.1, by omega⟩)]
theorem zs_wr_0 (a : zs_A) (s : Nat) : zs_wr a s 0 = a.2 := by
  funext s' b
  unfold zs_wr
  rw [if_neg (fun z => by omega)]
theorem l_write {d : Nat} {a : zs_A} {s c : Nat} (hs : s < 4) (hf : a.1 8 s ≠ 0) (hc : c ≤ a.1 9 s) (hc12 : c ≤ 12) : ∀ (m p : Nat) (v : zm_S), zd_P (a.1, zs_wr a s p) v → p + m = c → zm_T zd_H (d + 7) mX8_write (zp (.int (nI c)) (zd_P (a.1, zs_wr a s c))) 50 [(0, .ref 0), (1, .int (nI s)), (2, .int (nI c)), (3, .int (nI p))] [] v := by
  intro m
  induction m with
  | zero =>
    intro p v h hp
    obtain rfl : p = c := by omega
    exact gX8_write_50 (fun _ => gX8_write_87 ⟨rfl, h⟩) (fun q => absurd (Int32.le_refl _) q)
  | succ m ih =>
    intro p v h hp
    have hz := (h.1.2.2.2.1 s hs).2
    have hz : a.1 9 s ≤ 60 := hz
    have e1 : v.1 1 (nI s).toNatClampNeg = nI (a.1 8 s) - 1 := by rw [zx_clamp (by omega)]; exact (h.2.2.2.2.1 s hs).1
    refine gX8_write_50 (fun q => absurd q (nI_ge (by omega) (by omega))) (fun _ => ?_)
    refine gX8_write_55 (vp_in_nI hs (by decide)) (k_belongsOf h (p := p) (w := 0) (by omega) (by decide)) (zp_i (fun u hu => ?_))
    rw [e1, zg_blw (a := (a.1, zs_wr a s p)) (b := a) rfl, zx_idx hs (by omega)]
    refine gX8_write_77 (k_cut _ _) (zq_i ?_)
    refine gX8_write_80 (vp_in_nI (by omega) (by decide)) ?_
    rw [zx_clamp (by omega), nI_1]
    have hput := hu.1.put hs (i := p) (show p < a.1 9 s by omega) (zs_cut (nI (a.1 8 s) - 1) (zs_blw a p 0))
    rw [show ((a.1, zs_wr a s p) : zs_A).2 = zs_wr a s p from rfl, zs_wr_1] at hput
    exact ih (p + 1) _ hput (by omega)
theorem m_write {d : Nat} {a : zs_A} {v : zm_S} (h : zd_P a v) (s : Int32) : zm_C zd_H (d + 7) mX8_write [.ref 0, .int s] v (zp (.int (zs_write a s).1) (zd_P (zs_write a s).2)) := by
  refine zm_C.of mtX8_write.1.2.2.2.2.2.2 rfl (Nat.le_of_ble_eq_true rfl) ?_
  refine gX8_write_0 (k_isSheet _) (zq_i ?_)
  refine gX8_write_4 (fun g => ?_) (fun g => gX8_write_7 (by rw [zs_write, if_neg (zi_0.mp g)]; exact ⟨rfl, h⟩))
  have hG := zi_n0.mp g
  obtain ⟨s, hs, rfl⟩ := zx_of (n := 4) hG (by decide)
  have hc : (nI s).toNatClampNeg = s := zx_clamp (by omega)
  obtain ⟨e1, e2, e3⟩ := h.2.2.2.2.1 s hs
  have hf := h.1.2.2.2.1 s hs
  refine gX8_write_10 (vp_in_nI hs (by decide)) (fun g2 => ?_) (fun g2 => ?_)
  rotate_left
  · rw [hc, e1, zx_form _ (by omega)] at g2
    refine gX8_write_19 (k_met _) (zq_i (gX8_write_24 ?_))
    rw [zs_write, if_pos hG, hc, if_pos (Decidable.not_not.mp g2)]
    exact h.metp rfl (by decide)
  rw [hc, e1, zx_form _ (by omega)] at g2
  have go : ∀ c, c = min (a.1 9 s) 12 → zm_T zd_H (d + 7) mX8_write (zp (.int (zs_write a (nI s)).1) (zd_P (zs_write a (nI s)).2)) 47 [(0, .ref 0), (1, .int (nI s))] [.int (nI c)] v := by
    intro c hcc
    refine gX8_write_47 ?_
    rw [zs_write, if_pos hG, hc, if_neg g2, ← hcc]
    refine l_write hs g2 (by omega) (by omega) c 0 v ?_ (by omega)
    rw [zs_wr_0]
    exact h
  refine gX8_write_25 (vp_in_nI hs (by decide)) (fun g3 => gX8_write_45 (go 12 ?_)) (fun g3 => gX8_write_36 (vp_in_nI hs (by decide)) ?_)
  · rw [hc, e2, show (12 : Int32) = nI 12 from rfl, nI_leI (by decide) (by omega)] at g3
    omega
  · rw [hc, e2, show (12 : Int32) = nI 12 from rfl, nI_leI (by decide) (by omega)] at g3
    rw [hc, e2]
    exact go _ (by omega)
def zs_countN (a : zs_A) (w : Nat) : Int32 :=
  if w = 0 then nI (a.1 0 0) else if w = 1 then nI (a.1 1 0) else if w = 2 then nI (zs_all a 0 12 + zs_all a 1 12) else if w = 3 then nI (zs_all a 1 12)
  else if w = 4 then nI (zs_with a 12) else if w = 5 then nI (a.1 6 0) else if w = 6 then nI (zs_reads a).2.1 else if w = 7 then nI (a.1 0 2) else nI (a.1 10 0)
def zs_count (a : zs_A) (w : Int32) : Int32 := if 0 ≤ w ∧ w < 9 then zs_countN a w.toNatClampNeg else -2
theorem m_count {d : Nat} {a : zs_A} {v : zm_S} (h : zd_P a v) (w : Int32) : zm_C zd_H (d + 5) mX8_count [.ref 0, .int w] v (zp (.int (zs_count a w)) (fun u => zd_P a u ∧ zd_S a u ∧ zd_T a u)) := by
  refine zm_C.of mtX8_count.1.2.2.2.2.2.2 rfl (Nat.le_of_ble_eq_true rfl) ?_
  refine gX8_count_0 (k_find h) (zp_v (fun u hu => ?_))
  refine gX8_count_4 (fun g => ?_) (fun g => ?_) (fun g => ?_) (fun g => ?_) (fun g => ?_) (fun g => ?_) (fun g => ?_) (fun g => ?_) (fun g => ?_) (fun g => ?_)
  · subst g
    exact gX8_count_56 (k_n hu.1) (zq_i (gX8_count_60 ⟨rfl, hu⟩))
  · subst g
    refine gX8_count_61 ?_
    rw [hu.1.2.2.1.1]
    exact ⟨rfl, hu⟩
  · subst g
    refine gX8_count_66 (k_allAnswers hu.1 hu.2.1 (x := 0) (by decide)) (zq_i ?_)
    refine gX8_count_71 (k_allAnswers hu.1 hu.2.1 (x := 1) (by decide)) (zq_i (gX8_count_76 ?_))
    rw [nI_add]
    exact ⟨rfl, hu⟩
  · subst g
    exact gX8_count_78 (k_allAnswers hu.1 hu.2.1 (x := 1) (by decide)) (zq_i (gX8_count_83 ⟨rfl, hu⟩))
  · subst g
    exact gX8_count_84 (k_pupilsWith hu.1 hu.2.1) (zq_i (gX8_count_88 ⟨rfl, hu⟩))
  · subst g
    refine gX8_count_89 ?_
    rw [hu.1.2.2.2.1.1]
    exact ⟨rfl, hu⟩
  · subst g
    refine gX8_count_94 ?_
    rw [hu.2.2.1]
    exact ⟨rfl, hu⟩
  · subst g
    refine gX8_count_99 zx_in2 ?_
    rw [show (2 : Int32).toNatClampNeg = 2 from rfl, hu.1.2.1 2 (by decide)]
    exact ⟨rfl, hu⟩
  · subst g
    refine gX8_count_106 ?_
    rw [hu.1.2.2.2.2.2]
    exact ⟨rfl, hu⟩
  · refine gX8_count_111 ?_
    rw [zs_count, if_neg (fun q => ?_)]
    · exact ⟨rfl, hu⟩
    · rw [fa_le, fa_lt] at q
      have e0 : (0 : Int32).toInt = 0 := by decide
      have e9 : (9 : Int32).toInt = 9 := by decide
      omega
