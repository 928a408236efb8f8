/-! ===== the best row: what it is, and the calls that show it ===== -/
theorem zs_bf (W : Nat → Nat → Nat) : ∀ (L : List (List Nat)) (b : Nat × Nat × List Nat), ((L.foldl (zs_bstep W) b).1 ≤ b.1 ∧ ∀ l, l ∈ L → (L.foldl (zs_bstep W) b).1 ≤ zs_of W l 12) ∧ (((L.foldl (zs_bstep W) b).1 = b.1 ∧ (L.foldl (zs_bstep W) b).2.2 = b.2.2) ∨ ((L.foldl (zs_bstep W) b).2.2 ∈ L ∧ (L.foldl (zs_bstep W) b).1 = zs_of W (L.foldl (zs_bstep W) b).2.2 12))
  | [], b => ⟨⟨Nat.le_refl _, fun l hl => by cases hl⟩, Or.inl ⟨rfl, rfl⟩⟩
  | l :: L, b => by
    obtain ⟨⟨h1, h2⟩, h3⟩ := zs_bf W L (zs_bstep W b l)
    rw [List.foldl_cons]
    have hb : (zs_bstep W b l).1 ≤ b.1 ∧ (zs_bstep W b l).1 ≤ zs_of W l 12 ∧ (((zs_bstep W b l).1 = b.1 ∧ (zs_bstep W b l).2.2 = b.2.2) ∨ ((zs_bstep W b l).2.2 = l ∧ (zs_bstep W b l).1 = zs_of W l 12)) := by
      unfold zs_bstep
      by_cases c : zs_of W l 12 < b.1
      · rw [if_pos c]
        exact ⟨by simp only; omega, Nat.le_refl _, Or.inr ⟨rfl, rfl⟩⟩
      · rw [if_neg c]
        by_cases c2 : zs_of W l 12 = b.1
        · rw [if_pos c2]
          exact ⟨Nat.le_refl _, by simp only; omega, Or.inl ⟨rfl, rfl⟩⟩
        · rw [if_neg c2]
          exact ⟨Nat.le_refl _, by omega, Or.inl ⟨rfl, rfl⟩⟩
    obtain ⟨b1, b2, b3⟩ := hb
    refine ⟨⟨by omega, fun l' hl' => ?_⟩, ?_⟩
    · rcases List.mem_cons.mp hl' with e | e
      · rw [e]; omega
      · exact h2 l' e
    · rcases h3 with ⟨q1, q2⟩ | ⟨q1, q2⟩
      · rcases b3 with ⟨r1, r2⟩ | ⟨r1, r2⟩
        · exact Or.inl ⟨q1.trans r1, q2.trans r2⟩
        · refine Or.inr ⟨?_, ?_⟩
          · rw [q2, r1]; exact List.mem_cons_self
          · rw [q2, r1, q1, r2]
      · exact Or.inr ⟨List.mem_cons_of_mem _ q1, q2⟩
theorem zs_prm_len : ∀ (m : Nat) (l r : List Nat), r ∈ zs_prm m l → r.length = m
  | 0, l, r, h => by
    rw [zs_prm] at h
    rw [List.mem_singleton.mp h]; rfl
  | m + 1, l, r, h => by
    rw [zs_prm] at h
    obtain ⟨y, hy, hr⟩ := List.mem_flatMap.mp h
    obtain ⟨r', hr', rfl⟩ := List.mem_map.mp hr
    rw [List.length_cons, zs_prm_len m _ r' hr']
theorem zs_ql_none (n : Nat) : zs_ql n none = List.range n := by
  unfold zs_ql
  exact List.filter_eq_self.mpr (fun _ _ => by simp)
theorem zs_perms_ne {n : Nat} (h2 : 2 ≤ n) (h7 : n ≤ 7) {A : Option Nat} (hA : ∀ q, A = some q → q < n) : ∃ l, l ∈ zs_perms (zs_ql n A) := by
  have hchk := zs_chk_all h2 h7 hA
  unfold zs_chk at hchk
  cases hL : zs_perms (zs_ql n A) with
  | nil => rw [hL] at hchk; cases hchk
  | cons l r => exact ⟨l, List.mem_cons_self⟩
theorem zs_best_in {a : zs_A} (h : zs_ok a) {A T : Option Nat} (hA : ∀ q, A = some q → q < a.1 0 0) : (zs_best a A T).2.2 ∈ zs_perms (zs_ql (a.1 0 0) A) ∧ (zs_best a A T).1 = zs_of (zs_wg a A T) (zs_best a A T).2.2 12 := by
  obtain ⟨l, hl⟩ := zs_perms_ne h.1.1 h.1.2.1 hA
  have hb := zs_bf (zs_wg a A T) (zs_perms (zs_ql (a.1 0 0) A)) (10000, 0, [])
  rcases hb.2 with ⟨q1, _⟩ | q
  · have := hb.1.2 l hl
    have h2 := zs_of_le (zs_wg_le a A T) l
    simp only at q1
    omega
  · exact q
theorem zs_best_len {a : zs_A} (h : zs_ok a) {T : Option Nat} : (zs_best a none T).2.2.length = a.1 0 0 := by
  have := zs_prm_len _ _ _ (zs_best_in h (A := none) (T := T) (fun q hq => by cases hq)).1
  rw [this, zs_ql_none, List.length_range]
theorem zs_best_lt {a : zs_A} (h : zs_ok a) {T : Option Nat} {j : Nat} (hj : j < a.1 0 0) : (zs_best a none T).2.2.getD j 0 < a.1 0 0 :=
  zs_ql_lt (zs_prm_mem _ _ _ (zs_best_in h (A := none) (T := T) (fun q hq => by cases hq)).1 _ (zs_getD_mem (by rw [zs_best_len h]; exact hj)))
theorem k_findBest {d : Nat} {a : zs_A} {v : zm_S} (h : zd_P a v) : zm_C zd_H (d + 4) mX8_findBest [.ref 0] v (zp .null (fun u => zd_P a u ∧ zd_S a u ∧ zd_b (zs_best a none none) u ∧ zd_G v u)) := by
  refine zm_C.of mtX8_findBest.1.2.2.2.2.2.2 rfl (Nat.le_of_ble_eq_true rfl) ?_
  refine gX8_findBest_0 (k_findSays_g h) (zp_v (fun u hu => ?_))
  refine gX8_findBest_4 (k_findOrder hu.1 hu.2.1 (A := none) (T := none) (fun q hq => by cases hq) (fun q hq => by cases hq)) (zp_v (fun z hz => gX8_findBest_10 ?_))
  exact ⟨rfl, hz.1, hz.2.1, hz.2.2.1, fun k hk => by rw [hz.2.2.2 k hk]; exact hu.2.2 k (by omega)⟩
def zs_off (a : zs_A) (w : Int32) : Int32 := if 0 ≤ w ∧ w < 2 then (if w = 0 then nI (zs_best a none none).1 else nI (zs_best a none none).2.1) else -2
theorem m_off {d : Nat} {a : zs_A} {v : zm_S} (h : zd_P a v) (w : Int32) : zm_C zd_H (d + 5) mX8_off [.ref 0, .int w] v (zp (.int (zs_off a w)) (zd_P a)) := by
  refine zm_C.of mtX8_off.1.2.2.2.2.2.2 rfl (Nat.le_of_ble_eq_true rfl) ?_
  refine gX8_off_0 (k_isTwo2 w) (zq_i ?_)
  refine gX8_off_4 (fun g => ?_) (fun g => gX8_off_7 ?_)
  · refine gX8_off_10 (k_findBest h) (zp_v (fun u hu => ?_))
    rw [zs_off, if_pos (zi_n0.mp g)]
    refine gX8_off_14 (fun g2 => gX8_off_25 ?_) (fun g2 => gX8_off_18 ?_)
    · rw [if_neg g2, hu.2.2.1.2.1]; exact ⟨rfl, hu.1⟩
    · rw [if_pos g2, hu.2.2.1.1]; exact ⟨rfl, hu.1⟩
  · rw [zs_off, if_neg (zi_0.mp g)]; exact ⟨rfl, h⟩
def zs_row (a : zs_A) (i : Int32) : Int32 := if 0 ≤ i ∧ i < nI (a.1 0 0) then nI ((zs_best a none none).2.2.getD i.toNatClampNeg 0) else -2
theorem m_row {d : Nat} {a : zs_A} {v : zm_S} (h : zd_P a v) (i : Int32) : zm_C zd_H (d + 5) mX8_row [.ref 0, .int i] v (zp (.int (zs_row a i)) (zd_P a)) := by
  refine zm_C.of mtX8_row.1.2.2.2.2.2.2 rfl (Nat.le_of_ble_eq_true rfl) ?_
  have hn := h.1.1
  refine gX8_row_0 (k_isQuestion h i) (zq_i ?_)
  refine gX8_row_5 (fun g => ?_) (fun g => gX8_row_8 ?_)
  · have hG := zi_n0.mp g
    obtain ⟨j, hj, rfl⟩ := zx_of hG (by omega)
    refine gX8_row_11 (k_findBest h) (zp_v (fun u hu => ?_))
    refine gX8_row_15 (vp_in_nI (by omega) (by decide)) ?_
    rw [zs_row, if_pos hG, zx_clamp (by omega), hu.2.2.1.2.2 j (by rw [zs_best_len h.1]; exact hj)]
    exact ⟨rfl, hu.1⟩
  · rw [zs_row, if_neg (zi_0.mp g)]; exact ⟨rfl, h⟩
/-- a pupil by a row: the set of the first k, the step, the least errors -/
def zs_sp (a : zs_A) (l : List Nat) (p : Nat) : Nat → Nat × Nat × Nat
  | 0 => (0, 0, zs_err a p 0)
  | k + 1 => ((zs_sp a l p k).1 ||| 2 ^ l.getD k 0, if zs_err a p ((zs_sp a l p k).1 ||| 2 ^ l.getD k 0) < (zs_sp a l p k).2.2 then k + 1 else (zs_sp a l p k).2.1, if zs_err a p ((zs_sp a l p k).1 ||| 2 ^ l.getD k 0) < (zs_sp a l p k).2.2 then zs_err a p ((zs_sp a l p k).1 ||| 2 ^ l.getD k 0) else (zs_sp a l p k).2.2)
def zs_spw (a : zs_A) (p w : Nat) : Nat := if w = 0 then (zs_sp a (zs_best a none none).2.2 p (a.1 0 0)).2.1 else (zs_sp a (zs_best a none none).2.2 p (a.1 0 0)).2.2
theorem zs_sp_lt {a : zs_A} {l : List Nat} {n : Nat} (hl : ∀ j, j < n → l.getD j 0 < n) (p : Nat) : ∀ k, k ≤ n → (zs_sp a l p k).1 < 2 ^ n
  | 0, _ => Nat.two_pow_pos n
  | k + 1, hk => by
    rw [zs_sp]
    exact Nat.or_lt_two_pow (zs_sp_lt hl p k (by omega)) (Nat.pow_lt_pow_right (by decide) (hl k (by omega)))
theorem zs_sp_le {a : zs_A} {l : List Nat} (p : Nat) : ∀ k, (zs_sp a l p k).2.2 ≤ 28
  | 0 => zs_err_le a p 0
  | k + 1 => by
    have := zs_sp_le (a := a) (l := l) p k
    have h2 := zs_err_le a p ((zs_sp a l p k).1 ||| 2 ^ l.getD k 0)
    rw [zs_sp]
    simp only
    split <;> omega
theorem l_stepOf {d : Nat} {a : zs_A} {v : zm_S} (h : zd_P a v) (hS : zd_S a v) (hb : ∀ j, j < (zs_best a none none).2.2.length → v.1 16 j = nI ((zs_best a none none).2.2.getD j 0)) {p w : Nat} (hp : p < 12) (hw : w < 2) : ∀ (m k : Nat), k + m = a.1 0 0 → zm_T zd_H (d + 3) mX8_stepOf (zq (.int (nI (zs_spw a p w))) v) 16 [(0, .ref 0), (1, .int (nI p)), (2, .int (nI w)), (3, .int (nI (zs_sp a (zs_best a none none).2.2 p k).1)), (4, .int (nI (zs_sp a (zs_best a none none).2.2 p k).2.1)), (5, .int (nI (zs_sp a (zs_best a none none).2.2 p k).2.2)), (6, .int (nI k))] [] v := by
  intro m
  have hn := h.1.1
  induction m with
  | zero =>
    intro k hk
    obtain rfl : k = a.1 0 0 := by omega
    refine gX8_stepOf_16 (k_n h) (zq_i ?_)
    refine gX8_stepOf_22 (fun _ => ?_) (fun q => absurd (Int32.le_refl _) q)
    refine gX8_stepOf_85 (fun g => gX8_stepOf_94 ?_) (fun g => gX8_stepOf_89 ?_)
    · rw [zs_spw, if_neg (fun q => g (by rw [q]; rfl))]; exact zq_m _ _
    · rw [zs_spw, if_pos ((nI_eq (b := 0) (by omega) (by decide)).mp g)]; exact zq_m _ _
  | succ m ih =>
    intro k hk
    have hlt := zs_sp_lt (a := a) (l := (zs_best a none none).2.2) (fun j hj => zs_best_lt h.1 (T := none) hj) p (k + 1) (by omega)
    have hp2 := zn_pow h.1
    have hle := zs_sp_le (a := a) (l := (zs_best a none none).2.2) p k
    have hr := zs_best_lt h.1 (T := none) (j := k) (by omega)
    have next := ih (k + 1) (by omega)
    refine gX8_stepOf_16 (k_n h) (zq_i ?_)
    refine gX8_stepOf_22 (fun q => absurd q (nI_ge (by omega) (by omega))) (fun _ => ?_)
    rw [zs_sp] at next hlt
    simp only at next hlt
    have e : nI (zs_sp a (zs_best a none none).2.2 p k).1 ||| 1 <<< (v.1 16 (nI k).toNatClampNeg &&& 31) = nI ((zs_sp a (zs_best a none none).2.2 p k).1 ||| 2 ^ (zs_best a none none).2.2.getD k 0) := by
      rw [zx_clamp (by omega), hb k (by rw [zs_best_len h.1]; omega), zy_bit _ (by omega), fa_or]
    have hC := k_errorsOf (d := d) h hS (s := (zs_sp a (zs_best a none none).2.2 p k).1 ||| 2 ^ (zs_best a none none).2.2.getD k 0) hp (by omega)
    have he := zs_err_le a p ((zs_sp a (zs_best a none none).2.2 p k).1 ||| 2 ^ (zs_best a none none).2.2.getD k 0)
    refine gX8_stepOf_25 (vp_in_nI (by omega) (by decide)) (by rw [e]; exact hC) (zq_i ?_)
    rw [e]
    refine gX8_stepOf_43 (fun g => gX8_stepOf_59 ?_) (fun g => gX8_stepOf_52 ?_)
    · refine gX8_stepOf_61 (fun g2 => gX8_stepOf_75 (gX8_stepOf_77 ?_)) (fun g2 => absurd g g2)
      rw [nI_leI (by omega) (by omega)] at g
      rw [if_neg (by omega), if_neg (by omega)] at next
      rw [nI_1]
      exact next
    · refine gX8_stepOf_61 (fun g2 => absurd g2 g) (fun g2 => gX8_stepOf_70 (gX8_stepOf_77 ?_))
      rw [nI_leI (by omega) (by omega)] at g
      rw [if_pos (by omega), if_pos (by omega)] at next
      rw [nI_1]
      exact next
theorem k_stepOf {d : Nat} {a : zs_A} {v : zm_S} (h : zd_P a v) (hS : zd_S a v) (hb : ∀ j, j < (zs_best a none none).2.2.length → v.1 16 j = nI ((zs_best a none none).2.2.getD j 0)) {p w : Nat} (hp : p < 12) (hw : w < 2) : zm_C zd_H (d + 3) mX8_stepOf [.ref 0, .int (nI p), .int (nI w)] v (zq (.int (nI (zs_spw a p w))) v) := by
  refine zm_C.of mtX8_stepOf.1.2.2.2.2.2.2 rfl (Nat.le_of_ble_eq_true rfl) ?_
  refine gX8_stepOf_0 (k_errorsOf h hS hp (s := 0) (by decide)) (zq_i ?_)
  exact gX8_stepOf_11 (l_stepOf (d := d) h hS hb hp hw (a.1 0 0) 0 (by omega))
def zs_step (a : zs_A) (p w : Int32) : Int32 := if (0 ≤ p ∧ p < 12) ∧ 0 ≤ w ∧ w < 2 then nI (zs_spw a p.toNatClampNeg w.toNatClampNeg) else -2
theorem m_step {d : Nat} {a : zs_A} {v : zm_S} (h : zd_P a v) (p w : Int32) : zm_C zd_H (d + 5) mX8_step [.ref 0, .int p, .int w] v (zp (.int (zs_step a p w)) (zd_P a)) := by
  refine zm_C.of mtX8_step.1.2.2.2.2.2.2 rfl (Nat.le_of_ble_eq_true rfl) ?_
  have bad : ∀ (hb : ¬ ((0 ≤ p ∧ p < 12) ∧ 0 ≤ w ∧ w < 2)), zm_T zd_H (d + 5) mX8_step (zp (.int (zs_step a p w)) (zd_P a)) 14 [] [] v := fun hb => gX8_step_14 (by rw [zs_step, if_neg hb]; exact ⟨rfl, h⟩)
  refine gX8_step_0 (k_isPupil p) (zq_i ?_)
  refine gX8_step_4 (fun g => bad (fun c => zi_0.mp g c.1)) (fun g1 => ?_)
  refine gX8_step_7 (k_isTwo2 w) (zq_i ?_)
  refine gX8_step_11 (fun g2 => ?_) (fun g => bad (fun c => zi_0.mp g c.2))
  have hG : (0 ≤ p ∧ p < 12) ∧ 0 ≤ w ∧ w < 2 := ⟨zi_n0.mp g1, zi_n0.mp g2⟩
  obtain ⟨p, hp, rfl⟩ := zx_of (n := 12) hG.1 (by decide)
  obtain ⟨w, hw, rfl⟩ := zx_of (n := 2) hG.2 (by decide)
  refine gX8_step_17 (k_findBest h) (zp_v (fun u hu => ?_))
  refine gX8_step_21 (k_stepOf hu.1 hu.2.1 hu.2.2.1.2.2 hp hw) (zq_i (gX8_step_27 ?_))
  rw [zs_step, if_pos hG, zx_clamp (by omega), zx_clamp (by omega)]
  exact ⟨rfl, hu.1⟩
/-- the oddest -/
def zs_od (a : zs_A) : Nat → Int32 × Nat
  | 0 => (-1, 0)
  | p + 1 => if (zs_od a p).2 < zs_spw a p 1 then (nI p, zs_spw a p 1) else zs_od a p
theorem zs_spw_le {a : zs_A} (p : Nat) : zs_spw a p 1 ≤ 28 := zs_sp_le p _
theorem zs_od_le (a : zs_A) : ∀ k, (zs_od a k).2 ≤ 28
  | 0 => Nat.zero_le _
  | k + 1 => by
    rw [zs_od]
    split
    · exact zs_spw_le k
    · exact zs_od_le a k
theorem l_oddNow {d : Nat} {a : zs_A} {v : zm_S} (h : zd_P a v) (hS : zd_S a v) (hb : zd_b (zs_best a none none) v) : ∀ (m k : Nat), k + m = 12 → zm_T zd_H (d + 4) mX8_oddNow (zq (.int (zs_od a 12).1) v) 10 [(0, .ref 0), (1, .int (zs_od a k).1), (2, .int (nI (zs_od a k).2)), (3, .int (nI k))] [] v := by
  intro m
  induction m with
  | zero =>
    intro k hk
    obtain rfl : k = 12 := by omega
    exact gX8_oddNow_10 (fun _ => gX8_oddNow_55 (zq_m _ _)) (fun q => absurd (by decide) q)
  | succ m ih =>
    intro k hk
    have hle := zs_od_le a k
    have hw := zs_spw_le (a := a) k
    have next := ih (k + 1) (by omega)
    rw [show zs_od a (k + 1) = if (zs_od a k).2 < zs_spw a k 1 then (nI k, zs_spw a k 1) else zs_od a k from rfl] at next
    refine gX8_oddNow_10 (fun q => absurd q (nI_ge (b := 12) (by omega) (by omega))) (fun _ => ?_)
    refine gX8_oddNow_16 (k_stepOf h hS hb.2.2 (by omega) (w := 1) (by decide)) (zq_i ?_)
    refine gX8_oddNow_22 (fun g => gX8_oddNow_34 ?_) (fun g => gX8_oddNow_30 ?_)
    · refine gX8_oddNow_35 (fun _ => gX8_oddNow_47 (gX8_oddNow_48 ?_)) (fun g2 => absurd g g2)
      rw [nI_leI (by omega) (by omega)] at g
      rw [if_neg (by omega)] at next
      rw [nI_1]
      exact next
    · refine gX8_oddNow_35 (fun g2 => absurd g2 g) (fun _ => gX8_oddNow_42 (gX8_oddNow_48 ?_))
      rw [nI_leI (by omega) (by omega)] at g
      rw [if_pos (by omega)] at next
      rw [nI_1]
      exact next
theorem m_odd {d : Nat} {a : zs_A} {v : zm_S} (h : zd_P a v) : zm_C zd_H (d + 6) mX8_odd [.ref 0] v (zp (.int (zs_od a 12).1) (zd_P a)) := by
  refine zm_C.of mtX8_odd.1.2.2.2.2.2.2 rfl (Nat.le_of_ble_eq_true rfl) ?_
  have hC : zm_C zd_H (d + 5) mX8_oddNow [.ref 0] v (zp (.int (zs_od a 12).1) (zd_P a)) := by
    refine zm_C.of mtX8_oddNow.1.2.2.2.2.2.2 rfl (Nat.le_of_ble_eq_true rfl) ?_
    refine gX8_oddNow_0 (k_findBest h) (zp_v (fun u hu => gX8_oddNow_4 ?_))
    exact zm_T.post (fun r z hz => ⟨hz.1, by rw [hz.2]; exact hu.1⟩) (l_oddNow (d := d + 1) hu.1 hu.2.1 hu.2.2.1 12 0 rfl)
  exact gX8_odd_0 hC (zp_i (fun u hu => gX8_odd_4 ⟨rfl, hu⟩))
/-- without one, or with one turned -/
def zs_wo (a : zs_A) (q w : Nat) : Nat := if w = 0 then (zs_best a (some q) none).1 else (zs_best a none (some q)).1
theorem zs_wo_le {a : zs_A} (h : zs_ok a) {q w : Nat} (hq : q < a.1 0 0) : zs_wo a q w ≤ 336 := by
  unfold zs_wo
  split
  · rw [(zs_best_in h (A := some q) (T := none) (fun x hx => by cases hx; exact hq)).2]; exact zs_of_le (zs_wg_le _ _ _) _
  · rw [(zs_best_in h (A := none) (T := some q) (fun x hx => by cases hx)).2]; exact zs_of_le (zs_wg_le _ _ _) _
theorem k_withoutOf {d : Nat} {a : zs_A} {v : zm_S} (h : zd_P a v) {q w : Nat} (hq : q < a.1 0 0) (hw : w < 2) : zm_C zd_H (d + 4) mX8_withoutOf [.ref 0, .int (nI q), .int (nI w)] v (zp (.int (nI (zs_wo a q w))) (fun u => zd_P a u ∧ zd_S a u ∧ zd_G v u)) := by
  refine zm_C.of mtX8_withoutOf.1.2.2.2.2.2.2 rfl (Nat.le_of_ble_eq_true rfl) ?_
  refine gX8_withoutOf_0 (k_findSays_g h) (zp_v (fun u hu => ?_))
  refine gX8_withoutOf_4 (fun g => gX8_withoutOf_13 ?_) (fun g => gX8_withoutOf_9 ?_)
  · refine gX8_withoutOf_14 (fun _ => gX8_withoutOf_22 ?_) (fun g2 => absurd g2 g)
    refine gX8_withoutOf_23 (k_findOrder hu.1 hu.2.1 (A := none) (T := some q) (fun x hx => by cases hx) (fun x hx => by cases hx; exact hq)) (zp_v (fun z hz => gX8_withoutOf_26 ?_))
    rw [hz.2.2.1.1, zs_wo, if_neg (fun e => g (by rw [e]; rfl))]
    exact ⟨rfl, hz.1, hz.2.1, fun k hk => by rw [hz.2.2.2 k hk]; exact hu.2.2 k (by omega)⟩
  · refine gX8_withoutOf_14 (fun g2 => absurd g g2) (fun _ => gX8_withoutOf_18 ?_)
    refine gX8_withoutOf_23 (k_findOrder hu.1 hu.2.1 (A := some q) (T := none) (fun x hx => by cases hx; exact hq) (fun x hx => by cases hx)) (zp_v (fun z hz => gX8_withoutOf_26 ?_))
    rw [hz.2.2.1.1, zs_wo, if_pos ((nI_eq (b := 0) (by omega) (by decide)).mp g)]
    exact ⟨rfl, hz.1, hz.2.1, fun k hk => by rw [hz.2.2.2 k hk]; exact hu.2.2 k (by omega)⟩
def zs_without (a : zs_A) (q w : Int32) : Int32 := if (0 ≤ q ∧ q < nI (a.1 0 0)) ∧ 0 ≤ w ∧ w < 2 then nI (zs_wo a q.toNatClampNeg w.toNatClampNeg) else -2
theorem m_without {d : Nat} {a : zs_A} {v : zm_S} (h : zd_P a v) (q w : Int32) : zm_C zd_H (d + 5) mX8_without [.ref 0, .int q, .int w] v (zp (.int (zs_without a q w)) (zd_P a)) := by
  refine zm_C.of mtX8_without.1.2.2.2.2.2.2 rfl (Nat.le_of_ble_eq_true rfl) ?_
  have hn := h.1.1
  have bad : ∀ (hb : ¬ ((0 ≤ q ∧ q < nI (a.1 0 0)) ∧ 0 ≤ w ∧ w < 2)), zm_T zd_H (d + 5) mX8_without (zp (.int (zs_without a q w)) (zd_P a)) 24 [] [] v := fun hb => gX8_without_24 (by rw [zs_without, if_neg hb]; exact ⟨rfl, h⟩)
  refine gX8_without_0 (k_isQuestion h q) (zq_i ?_)
  refine gX8_without_5 (fun g => bad (fun c => zi_0.mp g c.1)) (fun g1 => ?_)
  refine gX8_without_8 (k_isTwo2 w) (zq_i ?_)
  refine gX8_without_12 (fun g => bad (fun c => zi_0.mp g c.2)) (fun g2 => ?_)
  have hG : (0 ≤ q ∧ q < nI (a.1 0 0)) ∧ 0 ≤ w ∧ w < 2 := ⟨zi_n0.mp g1, zi_n0.mp g2⟩
  obtain ⟨q, hq, rfl⟩ := zx_of hG.1 (by omega)
  obtain ⟨w, hw, rfl⟩ := zx_of (n := 2) hG.2 (by decide)
  refine gX8_without_15 (k_withoutOf h hq hw) (zp_i (fun u hu => gX8_without_21 ?_))
  rw [zs_without, if_pos hG, zx_clamp (by omega), zx_clamp (by omega)]
  exact ⟨rfl, hu.1⟩
def zs_wr2 (a : zs_A) (w : Nat) : Nat → Int32 × Nat
  | 0 => (-1, 10000)
  | q + 1 => if zs_wo a q w < (zs_wr2 a w q).2 then (nI q, zs_wo a q w) else zs_wr2 a w q
theorem zs_wr2_le {a : zs_A} (h : zs_ok a) (w : Nat) : ∀ k, k ≤ a.1 0 0 → (zs_wr2 a w k).2 ≤ 10000
  | 0, _ => Nat.le_refl _
  | k + 1, hk => by
    rw [zs_wr2]
    split
    · have := zs_wo_le h (q := k) (w := w) (by omega)
      simp only; omega
    · exact zs_wr2_le h w k (by omega)
theorem l_worstOf {d : Nat} {a : zs_A} {w : Nat} (hw : w < 2) : ∀ (m k : Nat) (v : zm_S), zd_P a v → k + m = a.1 0 0 → zm_T zd_H (d + 5) mX8_worstOf (zp (.int (zs_wr2 a w (a.1 0 0)).1) (zd_P a)) 9 [(0, .ref 0), (1, .int (nI w)), (2, .int (zs_wr2 a w k).1), (3, .int (nI (zs_wr2 a w k).2)), (4, .int (nI k))] [] v := by
  intro m
  induction m with
  | zero =>
    intro k v h hk
    obtain rfl : k = a.1 0 0 := by omega
    refine gX8_worstOf_9 (k_n h) (zq_i ?_)
    exact gX8_worstOf_15 (fun _ => gX8_worstOf_59 ⟨rfl, h⟩) (fun q => absurd (Int32.le_refl _) q)
  | succ m ih =>
    intro k v h hk
    have hn := h.1.1
    have hle := zs_wr2_le h.1 w k (by omega)
    have hwo := zs_wo_le h.1 (q := k) (w := w) (by omega)
    refine gX8_worstOf_9 (k_n h) (zq_i ?_)
    refine gX8_worstOf_15 (fun q => absurd q (nI_ge (by omega) (by omega))) (fun _ => ?_)
    refine gX8_worstOf_18 (k_withoutOf h (by omega) hw) (zp_i (fun u hu => ?_))
    have next := ih (k + 1) u hu.1 (by omega)
    rw [zs_wr2] at next
    refine gX8_worstOf_25 (fun g => gX8_worstOf_38 ?_) (fun g => gX8_worstOf_33 ?_)
    · refine gX8_worstOf_39 (fun _ => gX8_worstOf_51 (gX8_worstOf_52 ?_)) (fun g2 => absurd g g2)
      rw [nI_leI (by omega) (by omega)] at g
      rw [if_neg (by omega)] at next
      rw [nI_1]
      exact next
    · refine gX8_worstOf_39 (fun g2 => absurd g2 g) (fun _ => gX8_worstOf_46 (gX8_worstOf_52 ?_))
      rw [nI_leI (by omega) (by omega)] at g
      rw [if_pos (by omega)] at next
      rw [nI_1]
      exact next
theorem k_worstOf {d : Nat} {a : zs_A} {v : zm_S} (h : zd_P a v) {w : Nat} (hw : w < 2) : zm_C zd_H (d + 5) mX8_worstOf [.ref 0, .int (nI w)] v (zp (.int (zs_wr2 a w (a.1 0 0)).1) (zd_P a)) := by
  refine zm_C.of mtX8_worstOf.1.2.2.2.2.2.2 rfl (Nat.le_of_ble_eq_true rfl) ?_
  exact gX8_worstOf_0 (l_worstOf hw (a.1 0 0) 0 v h (by omega))
def zs_worst (a : zs_A) (w : Int32) : Int32 := if 0 ≤ w ∧ w < 2 then (zs_wr2 a w.toNatClampNeg (a.1 0 0)).1 else -2
theorem m_worst {d : Nat} {a : zs_A} {v : zm_S} (h : zd_P a v) (w : Int32) : zm_C zd_H (d + 6) mX8_worst [.ref 0, .int w] v (zp (.int (zs_worst a w)) (zd_P a)) := by
  refine zm_C.of mtX8_worst.1.2.2.2.2.2.2 rfl (Nat.le_of_ble_eq_true rfl) ?_
  refine gX8_worst_0 (k_isTwo2 w) (zq_i ?_)
  refine gX8_worst_4 (fun g => gX8_worst_15 ?_) (fun g => ?_)
  · rw [zs_worst, if_neg (zi_0.mp g)]; exact ⟨rfl, h⟩
  · have hG := zi_n0.mp g
    obtain ⟨w, hw, rfl⟩ := zx_of (n := 2) hG (by decide)
    refine gX8_worst_7 (k_worstOf h hw) (zp_i (fun u hu => gX8_worst_12 ?_))
    rw [zs_worst, if_pos hG, zx_clamp (by omega)]
    exact ⟨rfl, hu⟩
