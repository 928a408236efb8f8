def zs_tn (a : zs_A) (q : Nat) : Nat := (zs_reads a).2.2 q
def zs_need (a : zs_A) (w x y : Nat) : Bool := decide (x ≠ y) && (if w = 0 then (zs_tn a y).testBit x else decide (zs_two a 0 1 x y 12 ≤ a.1 0 2 ∧ zs_two a 0 1 x y 12 < zs_two a 1 0 x y 12))
def zs_nd (a : zs_A) (y : Nat) : Nat := zb (fun x => zs_need a (a.1 0 3) x y) (a.1 0 0)
def zs_stk (a : zs_A) (s : Nat) : Nat → Bool
  | 0 => true
  | k + 1 => zs_stk a s k && (!s.testBit k || decide (zs_nd a k &&& (127 ^^^ s) = 0))
def zs_st (a : zs_A) (s : Nat) : Bool := zs_stk a s (a.1 0 0)
theorem zs_nd_lt (a : zs_A) (h : zs_ok a) (y : Nat) : zs_nd a y < 128 := zb_lt7 _ h.1.2.1
theorem zs_rds_lt {a : zs_A} : ∀ (m i c : Nat) (tn : Nat → Nat), (∀ q, q < 7 → tn q < 128) → ∀ q, q < 7 → (zs_rds a m i c tn).2.2 q < 128 := by
  intro m
  induction m with
  | zero => intro i c tn ht; exact ht
  | succ m ih =>
    intro i c tn ht q hq
    rw [zs_rds]
    split
    · exact show (0 : Nat) < 128 by decide
    · rename_i x y hp
      have hxy : x < 7 ∧ y < 7 := by
        unfold zs_part at hp
        split at hp
        · cases hp
        · rename_i x' hx'
          split at hp
          · split at hp
            · cases hp
            · rename_i y' hy'
              split at hp
              · cases hp
              · cases hp
                exact ⟨(zs_let_lt hx').1, (zs_let_lt hy').1⟩
          · cases hp
      split
      · split
        · exact ih _ _ _ (zs_tnu_lt ht hxy.1 hxy.2) q hq
        · exact show (0 : Nat) < 128 by decide
      · exact zs_tnu_lt ht hxy.1 hxy.2 q hq
theorem zs_tn_lt (a : zs_A) : ∀ q, q < 7 → zs_tn a q < 128 := by
  intro q hq
  unfold zs_tn zs_reads
  split
  · exact show (0 : Nat) < 128 by decide
  · exact zs_rds_lt 16 0 0 _ (fun _ _ => by decide) q hq
theorem k_isNeeded {d : Nat} {a : zs_A} {v : zm_S} (h : zd_P a v) (hS : zd_S a v) (hT : zd_T a v) {x y w : Nat} (hx : x < 7) (hy : y < 7) (hw : w < 2) : zm_C zd_H (d + 1) mX8_isNeeded [.ref 0, .int (nI x), .int (nI y), .int (nI w)] v (zq (.int (zi (zs_need a w x y = true))) v) := by
  refine zm_C.of mtX8_isNeeded.1.2.2.2.2.2.2 rfl (Nat.le_of_ble_eq_true rfl) ?_
  have no : ∀ (g : zs_need a w x y = false), zm_T zd_H (d + 1) mX8_isNeeded (zq (.int (zi (zs_need a w x y = true))) v) 38 [] [] v := fun g => gX8_isNeeded_38 (by rw [zi_f (by rw [g]; decide)]; exact zq_m _ _)
  have yes : ∀ (g : zs_need a w x y = true), zm_T zd_H (d + 1) mX8_isNeeded (zq (.int (zi (zs_need a w x y = true))) v) 34 [] [] v := fun g => gX8_isNeeded_34 (by rw [zi_t g]; exact zq_m _ _)
  refine gX8_isNeeded_0 (fun g => no ?_) (fun g => ?_)
  · rw [nI_eq (by omega) (by omega)] at g
    rw [zs_need, g]
    simp
  rw [nI_eq (by omega) (by omega)] at g
  refine gX8_isNeeded_5 (fun g2 => ?_) (fun g2 => ?_)
  · have hw1 : w ≠ 0 := fun q => g2 (by rw [q]; rfl)
    refine gX8_isNeeded_25 (k_isFound h hS hx hy) (zq_i ?_)
    refine gX8_isNeeded_31 (fun g3 => no ?_) (fun g3 => yes ?_)
    · rw [zi_0] at g3
      rw [zs_need, if_neg hw1, decide_eq_false g3, Bool.and_false]
    · rw [zi_n0] at g3
      rw [zs_need, if_neg hw1, decide_eq_true g3, decide_eq_true g]
      rfl
  · have hw0 : w = 0 := (nI_eq (b := 0) (by omega) (by decide)).mp g2
    have htn := zs_tn_lt a y hy
    refine gX8_isNeeded_9 (vp_in_nI hy (by decide)) (by rw [zx_clamp (by omega), hT.2 y hy]; exact k_isIn (x := zs_tn a y) (by omega) (by omega)) (zq_i ?_)
    refine gX8_isNeeded_19 (fun g3 => no ?_) (fun g3 => gX8_isNeeded_22 (yes ?_))
    · rw [zi_0] at g3
      rw [zs_need, if_pos hw0, Bool.not_eq_true _ |>.mp g3, Bool.and_false]
    · rw [zi_n0] at g3
      rw [zs_need, if_pos hw0, g3, decide_eq_true g]
      rfl
theorem zd_S.keep {a : zs_A} {v u : zm_S} (h : zd_S a v) (e : u.1 10 = v.1 10) : zd_S a u := fun p q hp hq => by rw [e]; exact h p q hp hq
theorem k_find_g {d : Nat} {a : zs_A} {v : zm_S} (h : zd_P a v) : zm_C zd_H (d + 4) mX8_find [.ref 0] v (zp .null (fun u => zd_P a u ∧ zd_S a u ∧ zd_T a u ∧ ∀ k, 13 ≤ k → u.1 k = v.1 k)) := by
  refine zm_C.of mtX8_find.1.2.2.2.2.2.2 rfl (Nat.le_of_ble_eq_true rfl) ?_
  refine gX8_find_0 (k_findSays_g h) (zp_v (fun u hu => ?_))
  refine gX8_find_4 (k_reads hu.1) (zp_i (fun z hz => gX8_find_8 ?_))
  exact ⟨rfl, hz.1, hu.2.1.keep (hz.2.1 10 (by decide) (by decide)), hz.2.2, fun k hk => (hz.2.1 k (by omega) (by omega)).trans (hu.2.2 k (by omega))⟩
theorem k_find {d : Nat} {a : zs_A} {v : zm_S} (h : zd_P a v) : zm_C zd_H (d + 4) mX8_find [.ref 0] v (zp .null (fun u => zd_P a u ∧ zd_S a u ∧ zd_T a u)) := (k_find_g h).post (fun _ _ q => ⟨q.1, q.2.1, q.2.2.1, q.2.2.2.1⟩)
def zs_fault (a : zs_A) : Int32 := zs_fl (zs_reads a).1
theorem m_fault {d : Nat} {a : zs_A} {v : zm_S} (h : zd_P a v) : zm_C zd_H (d + 4) mX8_fault [.ref 0] v (zp (.int (zs_fault a)) (zd_P a)) := by
  refine zm_C.of mtX8_fault.1.2.2.2.2.2.2 rfl (Nat.le_of_ble_eq_true rfl) ?_
  refine gX8_fault_0 (k_reads h) (zp_i (fun u hu => gX8_fault_4 ?_))
  exact ⟨rfl, hu.1⟩
def zs_needed (a : zs_A) (x y w : Int32) : Int32 :=
  if (0 ≤ x ∧ x < nI (a.1 0 0)) ∧ (0 ≤ y ∧ y < nI (a.1 0 0)) ∧ x ≠ y ∧ 0 ≤ w ∧ w < 2 then zi (zs_need a w.toNatClampNeg x.toNatClampNeg y.toNatClampNeg = true) else -2
theorem k_isTwo2 {d : Nat} {w : zm_S} (a : Int32) : zm_C zd_H (d + 1) mX8_isTwo [.int a] w (zq (.int (zi (0 ≤ a ∧ a < 2))) w) := by
  have h := k_isTwo (d := d) (w := w) a
  rw [zi_cong (show (0 ≤ a ∧ a ≤ 1) ↔ (0 ≤ a ∧ a < 2) by rw [zx_le1])] at h
  exact h
theorem m_needed {d : Nat} {a : zs_A} {v : zm_S} (h : zd_P a v) (x y w : Int32) : zm_C zd_H (d + 5) mX8_needed [.ref 0, .int x, .int y, .int w] v (zp (.int (zs_needed a x y w)) (zd_P a)) := by
  refine zm_C.of mtX8_needed.1.2.2.2.2.2.2 rfl (Nat.le_of_ble_eq_true rfl) ?_
  have hn := h.1.1
  have bad : ∀ (hb : ¬ ((0 ≤ x ∧ x < nI (a.1 0 0)) ∧ (0 ≤ y ∧ y < nI (a.1 0 0)) ∧ x ≠ y ∧ 0 ≤ w ∧ w < 2)), zm_T zd_H (d + 5) mX8_needed (zp (.int (zs_needed a x y w)) (zd_P a)) 28 [] [] v := fun hb => gX8_needed_28 (by rw [zs_needed, if_neg hb]; exact ⟨rfl, h⟩)
  refine gX8_needed_0 (k_isQuestion h x) (zq_i ?_)
  refine gX8_needed_5 (fun g => bad (fun c => zi_0.mp g c.1)) (fun g1 => ?_)
  refine gX8_needed_8 (k_isQuestion h y) (zq_i ?_)
  refine gX8_needed_13 (fun g => bad (fun c => zi_0.mp g c.2.1)) (fun g2 => ?_)
  refine gX8_needed_16 (fun g => bad (fun c => c.2.2.1 g)) (fun g3 => ?_)
  refine gX8_needed_21 (k_isTwo2 w) (zq_i ?_)
  refine gX8_needed_25 (fun g4 => ?_) (fun g => bad (fun c => zi_0.mp g c.2.2.2))
  have hG : (0 ≤ x ∧ x < nI (a.1 0 0)) ∧ (0 ≤ y ∧ y < nI (a.1 0 0)) ∧ x ≠ y ∧ 0 ≤ w ∧ w < 2 := ⟨zi_n0.mp g1, zi_n0.mp g2, g3, zi_n0.mp g4⟩
  obtain ⟨x, hx, rfl⟩ := zx_of hG.1 (by omega)
  obtain ⟨y, hy, rfl⟩ := zx_of hG.2.1 (by omega)
  obtain ⟨w, hw, rfl⟩ := zx_of (n := 2) hG.2.2.2 (by omega)
  refine gX8_needed_31 (k_find h) (zp_v (fun u hu => ?_))
  refine gX8_needed_35 (k_isNeeded hu.1 hu.2.1 hu.2.2 (by omega) (by omega) hw) (zq_i ?_)
  have e : zs_needed a (nI x) (nI y) (nI w) = zi (zs_need a w x y = true) := by rw [zs_needed, if_pos hG, zx_clamp (by omega), zx_clamp (by omega), zx_clamp (by omega)]
  rw [e]
  refine gX8_needed_42 (fun g => gX8_needed_49 ?_) (fun g => gX8_needed_45 ?_)
  · rw [zi_f (zi_0.mp g)]
    exact ⟨rfl, hu.1⟩
  · rw [zi_t (zi_n0.mp g)]
    exact ⟨rfl, hu.1⟩
/-- the model's row of needs -/
def zd_N (a : zs_A) (v : zm_S) : Prop := ∀ b, b < a.1 0 0 → v.1 13 b = nI (zs_nd a b)
def zd_V (a : zs_A) (v : zm_S) : Prop := zd_P a v ∧ zd_S a v ∧ zd_T a v ∧ zd_N a v
theorem zd_T.keep {a : zs_A} {v u : zm_S} (h : zd_T a v) (e : u.1 12 = v.1 12) (e0 : u.1 0 = v.1 0) : zd_T a u := by
  unfold zd_T
  rw [e, e0]
  exact h
theorem l_findNeeds2 {d : Nat} {a : zs_A} {b : Nat} (hb : b < a.1 0 0) {Q : Value → zm_S → Prop} {w : zm_S} (hk : ∀ u, zd_P a u → zd_S a u → zd_T a u → u.1 13 b = nI (zs_nd a b) → (∀ j, j ≠ b → u.1 13 j = w.1 13 j) → (∀ k, 14 ≤ k → u.1 k = w.1 k) → zm_T zd_H (d + 2) mX8_findNeeds Q 68 [(0, .ref 0), (1, .int (nI b))] [] u) : ∀ (m k : Nat) (v : zm_S), zd_P a v → zd_S a v → zd_T a v → k + m = a.1 0 0 → v.1 13 b = nI (zb (fun x => zs_need a (a.1 0 3) x b) k) → (∀ j, j ≠ b → v.1 13 j = w.1 13 j) → (∀ k, 14 ≤ k → v.1 k = w.1 k) → zm_T zd_H (d + 2) mX8_findNeeds Q 23 [(0, .ref 0), (1, .int (nI b)), (2, .int (nI k))] [] v := by
  intro m
  induction m with
  | zero =>
    intro k v h hS hT hkm hv ho hG
    obtain rfl : k = a.1 0 0 := by omega
    refine gX8_findNeeds_23 (k_n h) (zq_i ?_)
    exact gX8_findNeeds_28 (fun _ => hk v h hS hT hv ho hG) (fun q => absurd (Int32.le_refl _) q)
  | succ m ih =>
    intro k v h hS hT hkm hv ho hG
    have hn := h.1.1
    refine gX8_findNeeds_23 (k_n h) (zq_i ?_)
    refine gX8_findNeeds_28 (fun q => absurd q (nI_ge (by omega) (by omega))) (fun _ => ?_)
    refine gX8_findNeeds_31 (vp_in_nI (by omega) (by decide)) zx_in3 (by rw [show (3 : Int32).toNatClampNeg = 3 from rfl, h.2.1 3 (by decide)]; exact k_isNeeded h hS hT (by omega) (by omega) (by omega)) (zq_i ?_)
    rw [zx_clamp (by omega), hv]
    have fin : ∀ z, nI (zb (fun x => zs_need a (a.1 0 3) x b) (k + 1)) = z → zm_T zd_H (d + 2) mX8_findNeeds Q 23 [(0, .ref 0), (1, .int (nI b)), (2, .int (nI k + 1))] [] (zm_pi v 13 (nI b).toNatClampNeg z) := by
      intro z hz
      rw [zx_clamp (by omega), nI_1, ← hz]
      refine ih (k + 1) _ (h.pa (by omega) _) (hS.keep (zm_pa_ne (by decide))) (hT.keep (zm_pa_ne (by decide)) (zm_pa_ne (by decide))) (by omega) (by rw [zm_pa_at, pk_us]) (fun j hj => by rw [zm_pa_at, pk_un hj]; exact ho j hj) (fun k hk => by rw [zm_pa_ne (by omega)]; exact hG k hk)
    refine gX8_findNeeds_50 (fun g => gX8_findNeeds_59 (gX8_findNeeds_60 (vp_in_nI (by omega) (by decide)) (fin _ ?_))) (fun g => gX8_findNeeds_53 (gX8_findNeeds_60 (vp_in_nI (by omega) (by decide)) (fin _ ?_)))
    · rw [zi_0] at g
      rw [zb, if_neg g, show (0 : Int32) = nI 0 from rfl, fa_or]
    · rw [zi_n0] at g
      rw [zb, if_pos g, zy_bit k (by omega), fa_or]
theorem l_findNeeds1 {d : Nat} {a : zs_A} {w0 : zm_S} : ∀ (m b : Nat) (v : zm_S), zd_P a v → zd_S a v → zd_T a v → b + m = a.1 0 0 → (∀ j, j < b → v.1 13 j = nI (zs_nd a j)) → (∀ k, 14 ≤ k → v.1 k = w0.1 k) → zm_T zd_H (d + 2) mX8_findNeeds (zp .null (fun u => zd_V a u ∧ ∀ k, 14 ≤ k → u.1 k = w0.1 k)) 6 [(0, .ref 0), (1, .int (nI b))] [] v := by
  intro m
  induction m with
  | zero =>
    intro b v h hS hT hbm hv hG
    obtain rfl : b = a.1 0 0 := by omega
    refine gX8_findNeeds_6 (k_n h) (zq_i ?_)
    exact gX8_findNeeds_11 (fun _ => gX8_findNeeds_74 ⟨rfl, ⟨h, hS, hT, hv⟩, hG⟩) (fun q => absurd (Int32.le_refl _) q)
  | succ m ih =>
    intro b v h hS hT hbm hv hG
    have hn := h.1.1
    refine gX8_findNeeds_6 (k_n h) (zq_i ?_)
    refine gX8_findNeeds_11 (fun q => absurd q (nI_ge (by omega) (by omega))) (fun _ => ?_)
    refine gX8_findNeeds_14 (vp_in_nI (by omega) (by decide)) ?_
    rw [zx_clamp (by omega)]
    refine l_findNeeds2 (w := v) (by omega) (fun u h1 h2 h3 h4 h5 h6 => gX8_findNeeds_68 ?_) (a.1 0 0) 0 _ (h.pa (by omega) _) (hS.keep (zm_pa_ne (by decide))) (hT.keep (zm_pa_ne (by decide)) (zm_pa_ne (by decide))) (by omega) (by rw [zm_pa_at, pk_us]; rfl) (fun j hj => by rw [zm_pa_at, pk_un hj]) (fun k hk => by rw [zm_pa_ne (by omega)])
    rw [nI_1]
    refine ih (b + 1) u h1 h2 h3 (by omega) (fun j hj => ?_) (fun k hk => (h6 k hk).trans (hG k hk))
    by_cases e : j = b
    · rw [e]; exact h4
    · rw [h5 j e]; exact hv j (by omega)
theorem k_findNeeds_g {d : Nat} {a : zs_A} {v : zm_S} (h : zd_P a v) : zm_C zd_H (d + 5) mX8_findNeeds [.ref 0] v (zp .null (fun u => zd_V a u ∧ ∀ k, 14 ≤ k → u.1 k = v.1 k)) := by
  refine zm_C.of mtX8_findNeeds.1.2.2.2.2.2.2 rfl (Nat.le_of_ble_eq_true rfl) ?_
  refine gX8_findNeeds_0 (k_find_g h) (zp_v (fun u hu => gX8_findNeeds_4 ?_))
  exact l_findNeeds1 (a.1 0 0) 0 u hu.1 hu.2.1 hu.2.2.1 (by omega) (fun j hj => absurd hj (Nat.not_lt_zero j)) (fun k hk => hu.2.2.2 k (by omega))
theorem k_findNeeds {d : Nat} {a : zs_A} {v : zm_S} (h : zd_P a v) : zm_C zd_H (d + 5) mX8_findNeeds [.ref 0] v (zp .null (zd_V a)) := (k_findNeeds_g h).post (fun _ _ q => ⟨q.1, q.2.1⟩)
theorem l_isState {d : Nat} {a : zs_A} {v : zm_S} (h : zd_P a v) (hN : zd_N a v) {s : Nat} (hs : s < 128) : ∀ (m k : Nat), k + m = a.1 0 0 → zm_T zd_H (d + 1) mX8_isState (zq (.int (zi (zs_st a s = true))) v) 4 [(0, .ref 0), (1, .int (nI s)), (2, .int (zi (zs_stk a s k = true))), (3, .int (nI k))] [] v := by
  intro m
  have hn := h.1.1
  induction m with
  | zero =>
    intro k hk
    obtain rfl : k = a.1 0 0 := by omega
    refine gX8_isState_4 (k_n h) (zq_i ?_)
    exact gX8_isState_9 (fun _ => gX8_isState_49 zi_and (zq_m _ _)) (fun q => absurd (Int32.le_refl _) q)
  | succ m ih =>
    intro k hk
    have next := ih (k + 1) (by omega)
    have hnd := zs_nd_lt a h.1 k
    have no : ∀ (g : zs_stk a s (k + 1) = false), zm_T zd_H (d + 1) mX8_isState (zq (.int (zi (zs_st a s = true))) v) 41 [(0, .ref 0), (1, .int (nI s)), (3, .int (nI k))] [] v := fun g => by
      refine gX8_isState_41 (gX8_isState_42 ?_)
      rw [nI_1]
      rw [zi_f (c := zs_stk a s (k + 1) = true) (by rw [g]; decide)] at next
      exact next
    have yes : ∀ (g : zs_stk a s (k + 1) = true), zm_T zd_H (d + 1) mX8_isState (zq (.int (zi (zs_st a s = true))) v) 37 [(0, .ref 0), (1, .int (nI s)), (3, .int (nI k))] [] v := fun g => by
      refine gX8_isState_37 (gX8_isState_42 ?_)
      rw [nI_1]
      rw [zi_t (c := zs_stk a s (k + 1) = true) g] at next
      exact next
    refine gX8_isState_4 (k_n h) (zq_i ?_)
    refine gX8_isState_9 (fun q => absurd q (nI_ge (by omega) (by omega))) (fun _ => ?_)
    refine gX8_isState_12 (fun g => no ?_) (fun g => ?_)
    · rw [zi_0] at g
      rw [zs_stk, Bool.not_eq_true _ |>.mp g, Bool.false_and]
    rw [zi_n0] at g
    refine gX8_isState_16 (k_isIn (by omega) (by omega)) (zq_i ?_)
    refine gX8_isState_21 (fun g2 => yes ?_) (fun g2 => ?_)
    · rw [zi_0] at g2
      rw [zs_stk, g, Bool.not_eq_true _ |>.mp g2]
      rfl
    rw [zi_n0] at g2
    have e : (v.1 13 (nI k).toNatClampNeg &&& (nI s ^^^ -1) = 0) ↔ (zs_nd a k &&& (127 ^^^ s) = 0) := by
      rw [zx_clamp (by omega), hN k (by omega), zy_not hnd hs]
      have := zy_and_lt (y := 127 ^^^ s) hnd
      exact nI_eq (b := 0) (by omega) (by decide)
    refine gX8_isState_24 (vp_in_nI (by omega) (by decide)) (fun g3 => no ?_) (fun g3 => yes ?_)
    · rw [e] at g3
      rw [zs_stk, g, g2, decide_eq_false g3]
      rfl
    · rw [e] at g3
      rw [zs_stk, g, g2, decide_eq_true g3]
      rfl
theorem k_isState {d : Nat} {a : zs_A} {v : zm_S} (h : zd_P a v) (hN : zd_N a v) {s : Nat} (hs : s < 128) : zm_C zd_H (d + 1) mX8_isState [.ref 0, .int (nI s)] v (zq (.int (zi (zs_st a s = true))) v) := by
  refine zm_C.of mtX8_isState.1.2.2.2.2.2.2 rfl (Nat.le_of_ble_eq_true rfl) ?_
  exact gX8_isState_0 (l_isState h hN hs (a.1 0 0) 0 (by omega))
