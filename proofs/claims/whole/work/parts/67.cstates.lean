/-! ===== the calls on states ===== -/
theorem zs_stl_at {a : zs_A} (ha : zs_ok a) {w : zm_S} (h : zc_b a w) {j : Nat} (hj : j < 2 ^ 31) : ∀ (m k : Nat), k + m = 2 ^ a.1 0 0 → zs_cnt a k ≤ j → zs_stl a (nI j) m k = if j < zs_cnt a (2 ^ a.1 0 0) then w.1 26 j else -1
  | 0, k, hk, hc => by
    obtain rfl : k = 2 ^ a.1 0 0 := by omega
    have hn : ¬ nI j = -1 := fun q => by
      have q2 := congrArg Int32.toInt q
      rw [nI_toInt (by omega), show (-1 : Int32).toInt = -1 from rfl] at q2
      omega
    rw [zs_stl, if_neg hn, if_neg (by omega)]
  | m + 1, k, hk, hc => by
    have hp := zn_pow ha
    have hck := zs_cnt_le a k
    rw [zs_stl]
    by_cases c : zs_st a k = true
    · rw [if_pos c]
      by_cases c2 : nI (zs_cnt a k) = nI j
      · rw [if_pos c2]
        rw [nI_eq (by omega) (by omega)] at c2
        have := zs_cnt_lt (n := 2 ^ a.1 0 0) (by omega) c
        rw [if_pos (by omega), ← c2, (h.2.2.2 k (by omega)).2 c]
      · rw [if_neg c2]
        rw [nI_eq (by omega) (by omega)] at c2
        exact zs_stl_at ha h hj m (k + 1) (by omega) (by rw [zs_cnt_1, if_pos c]; omega)
    · rw [if_neg c]
      exact zs_stl_at ha h hj m (k + 1) (by omega) (by rw [zs_cnt_1, if_neg c]; omega)
theorem zs_stl_m1 {a : zs_A} (ha : zs_ok a) : ∀ (m k : Nat), k + m = 2 ^ a.1 0 0 → zs_stl a (-1) m k = nI (zs_cnt a (2 ^ a.1 0 0))
  | 0, k, hk => by
    obtain rfl : k = 2 ^ a.1 0 0 := by omega
    rw [zs_stl, if_pos rfl]
  | m + 1, k, hk => by
    have hp := zn_pow ha
    have hck := zs_cnt_le a k
    rw [zs_stl]
    have c2 : ¬ nI (zs_cnt a k) = -1 := fun q => by
      have q2 := congrArg Int32.toInt q
      rw [nI_toInt (by omega), show (-1 : Int32).toInt = -1 from rfl] at q2
      omega
    rw [if_neg c2, ite_self]
    exact zs_stl_m1 ha m (k + 1) (by omega)
theorem c_states {d : Nat} {a : zs_A} {w : zm_S} (h : zc_P a w) (i : Int32) : zm_C zc_H (d + 4) mX7_states [.ref 0, .int i] w (zp (.int (zs_states a i)) (zc_P a)) := by
  refine zm_C.of mtX7_states.1.2.2.2.2.2.2 rfl (Nat.le_of_ble_eq_true rfl) ?_
  refine gX7_states_0 (fun g => ?_) (fun g => gX7_states_5 (by rw [zs_states, if_pos (Int32.not_le.mp g)]; exact ⟨rfl, h⟩))
  refine gX7_states_8 (k_findStates h) (zp_v (fun u hu => ?_))
  rw [zs_states, if_neg (Int32.not_lt.mpr g)]
  obtain ⟨hQ, -, -⟩ := hu
  have ha := hQ.1.1.1
  have hp := zn_pow ha
  have hcl := zs_cnt_le a (2 ^ a.1 0 0)
  refine gX7_states_12 (fun g2 => ?_) (fun g2 => gX7_states_17 ?_)
  · have h0 : 0 ≤ i := by
      rw [fa_le] at g ⊢
      have e1 : (-1 : Int32).toInt = -1 := rfl
      have e0 : (0 : Int32).toInt = 0 := rfl
      have : i.toInt ≠ -1 := fun q => g2 (Int32.toInt_inj.mp (by rw [q]; rfl))
      omega
    obtain ⟨j, hj, rfl⟩ : ∃ j : Nat, j < 2 ^ 31 ∧ i = nI j := by
      refine ⟨i.toInt.toNat, ?_, ?_⟩
      · have := Int32.toInt_lt i
        rw [fa_le] at h0
        have e0 : (0 : Int32).toInt = 0 := rfl
        omega
      · apply Int32.toInt_inj.mp
        have := Int32.toInt_lt i
        rw [fa_le] at h0
        have e0 : (0 : Int32).toInt = 0 := rfl
        rw [nI_toInt (by omega)]
        omega
    rw [zs_stl_at ha hQ.2.2.2 hj (2 ^ a.1 0 0) 0 (by omega) (Nat.zero_le _)]
    refine gX7_states_25 (fun g3 => gX7_states_48 ?_) (fun g3 => ?_)
    · rw [hQ.2.2.2.2.2.1, nI_leI (by omega) (by omega)] at g3
      rw [if_neg (by omega)]; exact ⟨rfl, hQ.P⟩
    · rw [hQ.2.2.2.2.2.1, nI_leI (by omega) (by omega)] at g3
      refine gX7_states_36 (vp_in_nI (by omega) (by decide)) ?_
      rw [if_pos (by omega), zx_clamp (by omega)]; exact ⟨rfl, hQ.P⟩
  · rw [g2, zs_stl_m1 ha _ _ (by omega), hQ.2.2.2.2.2.1]
    exact ⟨rfl, hQ.P⟩
/-! each pupil's -/
theorem zs_err7 {a : zs_A} (h : zs_ok a) (p : Nat) : zs_err a p 0 ≤ 7 := by
  unfold zs_err
  rw [zs_and127 _ (zs_Y_lt a h p), Nat.and_zero]
  have := zpc_le7 _ (zs_Y_lt a h p)
  have : zpc 0 = 0 := by decide
  omega
theorem zs_bl1 {a : zs_A} (h : zs_ok a) (p : Nat) : zs_bl a p 1 = (0, zs_err a p 0, 1) := by
  have := zs_err7 h p
  rw [zs_bl, if_pos (zs_st0 a), show zs_bl a p 0 = (-1, 10000, 0) from rfl]
  simp only
  rw [if_pos (by omega), if_pos (by omega), if_pos (by omega)]
  rfl
theorem l_stateOf {d : Nat} {a : zs_A} {w : zm_S} (h : zc_Q a w) {p : Nat} (hp12 : p < 12) : ∀ (m k : Nat), k + m = 2 ^ a.1 0 0 → 0 < k → zm_T zc_H (d + 2) mX7_stateOf (zq (.int (zs_bl a p (2 ^ a.1 0 0)).1) w) 8 [(0, .ref 0), (1, .int (nI p)), (2, .int (zs_bl a p k).1), (3, .int (nI (zs_bl a p k).2.1)), (4, .int (nI (zs_cnt a k)))] [] w := by
  intro m
  have ha := h.1.1.1
  have hp := zn_pow ha
  have hcl := zs_cnt_le a (2 ^ a.1 0 0)
  obtain ⟨b5, b6, b7, b8⟩ := h.2.2.2
  induction m with
  | zero =>
    intro k hk h0
    obtain rfl : k = 2 ^ a.1 0 0 := by omega
    exact gX7_stateOf_8 (fun _ => gX7_stateOf_66 (zq_m _ _)) (fun q => absurd (by rw [b7]; exact Int32.le_refl _) q)
  | succ m ih =>
    intro k hk h0
    have next := ih (k + 1) (by omega) (by omega)
    have hck := zs_cnt_le a k
    have hle := zs_bl_le a p k
    have he := zs_err_le a p k
    by_cases c : zs_st a k = true
    · have hlt := zs_cnt_lt (n := 2 ^ a.1 0 0) (by omega) c
      have e26 : w.1 26 (nI (zs_cnt a k)).toNatClampNeg = nI k := by rw [zx_clamp (by omega)]; exact (b8 k (by omega)).2 c
      rw [zs_bl, if_pos c, zs_cnt_1, if_pos c] at next
      simp only at next
      refine gX7_stateOf_8 (fun q => absurd q (by rw [b7]; exact nI_ge (by omega) (by omega))) (fun _ => ?_)
      refine gX7_stateOf_20 (vp_in_nI (by omega) (by decide)) (by rw [e26]; exact k_errorsWith h.1.1 hp12 (by omega)) (zq_i ?_)
      refine gX7_stateOf_38 (fun g => gX7_stateOf_60 ?_) (fun g => gX7_stateOf_46 (vp_in_nI (by omega) (by decide)) (gX7_stateOf_60 ?_))
      · rw [nI_leI (by omega) (by omega)] at g
        rw [if_neg (by omega), if_neg (by omega)] at next
        rw [nI_1]
        exact next
      · rw [nI_leI (by omega) (by omega)] at g
        rw [if_pos (by omega), if_pos (by omega)] at next
        rw [nI_1, e26]
        exact next
    · rw [zs_bl, if_neg c, zs_cnt_1, if_neg c] at next
      exact next
theorem k_stateOf {d : Nat} {a : zs_A} {w : zm_S} (h : zc_Q a w) {p : Nat} (hp12 : p < 12) : zm_C zc_H (d + 2) mX7_stateOf [.ref 0, .int (nI p)] w (zq (.int (nI (zs_own a p))) w) := by
  refine zm_C.of mtX7_stateOf.1.2.2.2.2.2.2 rfl (Nat.le_of_ble_eq_true rfl) ?_
  have ha := h.1.1.1
  have hp := zn_pow ha
  have hcl := zs_cnt_le a (2 ^ a.1 0 0)
  have he := zs_err7 ha p
  obtain ⟨b5, b6, b7, b8⟩ := h.2.2.2
  have hlt := zs_cnt_lt (a := a) (k := 0) (n := 2 ^ a.1 0 0) (by omega) (zs_st0 a)
  have c0 : zs_cnt a 0 = 0 := rfl
  have e26 : w.1 26 (0 : Int32).toNatClampNeg = nI 0 := by
    have := (b8 0 (by omega)).2 (zs_st0 a)
    exact this
  rw [← (zs_own_ok ha p).2.2]
  refine gX7_stateOf_0 ?_
  refine gX7_stateOf_8 (fun q => absurd q (by rw [b7]; exact nI_ge (a := 0) (by omega) (by omega))) (fun _ => ?_)
  refine gX7_stateOf_20 (vp_in_nI (n := 0) (by omega) (by decide)) (by rw [e26]; exact k_errorsWith h.1.1 hp12 (by omega)) (zq_i ?_)
  refine gX7_stateOf_38 (fun g => absurd g (nI_ge (b := 8) (by omega) (by omega))) (fun g => gX7_stateOf_46 (vp_in_nI (n := 0) (by omega) (by decide)) (gX7_stateOf_60 ?_))
  rw [e26]
  have next := l_stateOf (d := d) h hp12 (2 ^ a.1 0 0 - 1) 1 (by omega) (by omega)
  rw [zs_bl1 ha p, show zs_cnt a 1 = 1 by rw [zs_cnt_1, if_pos (zs_st0 a)]; rfl] at next
  exact next
theorem zs_bl_min {a : zs_A} (p : Nat) : ∀ k, (∀ j, j < k → zs_st a j = true → (zs_bl a p k).2.1 ≤ zs_err a p j) ∧ ((zs_bl a p k).2.1 = 10000 ∨ ∃ s, s < k ∧ (zs_bl a p k).1 = nI s ∧ (zs_bl a p k).2.1 = zs_err a p s) ∧ (zs_bl a p k).2.2 = fb_ct (fun j => zs_st a j && decide (zs_err a p j = (zs_bl a p k).2.1)) k
  | 0 => ⟨fun j hj => absurd hj (Nat.not_lt_zero j), Or.inl rfl, rfl⟩
  | k + 1 => by
    obtain ⟨h1, h2, h3⟩ := zs_bl_min (a := a) p k
    by_cases c : zs_st a k = true
    · by_cases c2 : zs_err a p k < (zs_bl a p k).2.1
      · have e : zs_bl a p (k + 1) = (nI k, zs_err a p k, 1) := by rw [zs_bl, if_pos c, if_pos c2, if_pos c2, if_pos c2]
        rw [e]
        refine ⟨fun j hj hs => ?_, Or.inr ⟨k, by omega, rfl, rfl⟩, ?_⟩
        · by_cases z : j = k
          · rw [z]; exact Nat.le_refl _
          · have := h1 j (by omega) hs
            simp only; omega
        · simp only
          rw [fb_ct_succ, c]
          have : fb_ct (fun j => zs_st a j && decide (zs_err a p j = zs_err a p k)) k = 0 := by
            rw [fb_ct_cong (q := fun _ => false) (fun j hj => ?_)]
            · have : ∀ m, fb_ct (fun _ => false) m = 0 := by
                intro m
                induction m with
                | zero => rfl
                | succ m ih => rw [fb_ct_succ, ih]; rfl
              exact this k
            · by_cases z : zs_st a j = true
              · have := h1 j hj z
                rw [z, decide_eq_false (by omega)]; rfl
              · rw [Bool.not_eq_true _ |>.mp z]; rfl
          rw [this]
          simp
      · have e : zs_bl a p (k + 1) = ((zs_bl a p k).1, (zs_bl a p k).2.1, if zs_err a p k = (zs_bl a p k).2.1 then (zs_bl a p k).2.2 + 1 else (zs_bl a p k).2.2) := by rw [zs_bl, if_pos c, if_neg c2, if_neg c2, if_neg c2]
        rw [e]
        refine ⟨fun j hj hs => ?_, ?_, ?_⟩
        · by_cases z : j = k
          · rw [z]; simp only; omega
          · exact h1 j (by omega) hs
        · rcases h2 with h2 | ⟨s, q1, q2, q3⟩
          · exact Or.inl h2
          · exact Or.inr ⟨s, by omega, q2, q3⟩
        · simp only
          rw [fb_ct_succ, c, ← h3]
          by_cases z : zs_err a p k = (zs_bl a p k).2.1
          · rw [if_pos z]; simp [z]
          · rw [if_neg z]; simp [z]
    · have e : zs_bl a p (k + 1) = zs_bl a p k := by rw [zs_bl, if_neg c]
      rw [e]
      refine ⟨fun j hj hs => ?_, ?_, ?_⟩
      · by_cases z : j = k
        · rw [z] at hs; exact absurd hs c
        · exact h1 j (by omega) hs
      · rcases h2 with h2 | ⟨s, q1, q2, q3⟩
        · exact Or.inl h2
        · exact Or.inr ⟨s, by omega, q2, q3⟩
      · rw [fb_ct_succ, ← h3, Bool.not_eq_true _ |>.mp c]
        simp
theorem zs_own_err {a : zs_A} (h : zs_ok a) (p : Nat) : zs_err a p (zs_own a p) = (zs_bl a p (2 ^ a.1 0 0)).2.1 := by
  have hp := zn_pow h
  obtain ⟨h1, h2, -⟩ := zs_bl_min (a := a) p (2 ^ a.1 0 0)
  obtain ⟨o1, o2, o3⟩ := zs_own_ok h p
  rcases h2 with h2 | ⟨s, q1, q2, q3⟩
  · have := h1 0 (by omega) (zs_st0 a)
    have := zs_err7 h p
    omega
  · rw [o3, nI_eq (by omega) (by omega)] at q2
    rw [q3, q2]
def zs_cE (a : zs_A) (p e : Nat) : Nat → Nat := fb_ct (fun j => zs_st a j && decide (zs_err a p j = e))
theorem l_statesWithErrors {d : Nat} {a : zs_A} {w : zm_S} (h : zc_Q a w) {p e : Nat} (hp12 : p < 12) (he28 : e ≤ 28) : ∀ (m k : Nat), k + m = 2 ^ a.1 0 0 → zm_T zc_H (d + 2) mX7_statesWithErrors (zq (.int (nI (zs_cE a p e (2 ^ a.1 0 0)))) w) 5 [(0, .ref 0), (1, .int (nI p)), (2, .int (nI e)), (3, .int (nI (zs_cE a p e k))), (4, .int (nI (zs_cnt a k)))] [] w := by
  intro m
  have ha := h.1.1.1
  have hp := zn_pow ha
  have hcl := zs_cnt_le a (2 ^ a.1 0 0)
  obtain ⟨b5, b6, b7, b8⟩ := h.2.2.2
  induction m with
  | zero =>
    intro k hk
    obtain rfl : k = 2 ^ a.1 0 0 := by omega
    exact gX7_statesWithErrors_5 (fun _ => gX7_statesWithErrors_48 (zq_m _ _)) (fun q => absurd (by rw [b7]; exact Int32.le_refl _) q)
  | succ m ih =>
    intro k hk
    have next := ih (k + 1) (by omega)
    have hck := zs_cnt_le a k
    have he := zs_err_le a p k
    rw [show zs_cE a p e (k + 1) = zs_cE a p e k + (if (zs_st a k && decide (zs_err a p k = e)) = true then 1 else 0) from fb_ct_succ _ _] at next
    by_cases c : zs_st a k = true
    · have hlt := zs_cnt_lt (n := 2 ^ a.1 0 0) (by omega) c
      have e26 : w.1 26 (nI (zs_cnt a k)).toNatClampNeg = nI k := by rw [zx_clamp (by omega)]; exact (b8 k (by omega)).2 c
      rw [c, Bool.true_and, zs_cnt_1, if_pos c] at next
      refine gX7_statesWithErrors_5 (fun q => absurd q (by rw [b7]; exact nI_ge (by omega) (by omega))) (fun _ => ?_)
      refine gX7_statesWithErrors_17 (vp_in_nI (by omega) (by decide)) (by rw [e26]; exact k_errorsWith h.1.1 hp12 (by omega)) (zq_i ?_)
      refine gX7_statesWithErrors_35 (fun g => gX7_statesWithErrors_42 ?_) (fun g => gX7_statesWithErrors_39 (gX7_statesWithErrors_42 ?_))
      · rw [nI_eq (by omega) (by omega)] at g
        rw [if_neg (by simpa using g)] at next
        rw [nI_1]
        exact next
      · rw [nI_eq (by omega) (by omega)] at g
        rw [if_pos (by simpa using g)] at next
        rw [nI_1, nI_1]
        exact next
    · rw [Bool.not_eq_true _ |>.mp c, Bool.false_and, if_neg (by decide), zs_cnt_1, if_neg c] at next
      exact next
theorem k_statesWithErrors {d : Nat} {a : zs_A} {w : zm_S} (h : zc_Q a w) {p e : Nat} (hp12 : p < 12) (he28 : e ≤ 28) : zm_C zc_H (d + 2) mX7_statesWithErrors [.ref 0, .int (nI p), .int (nI e)] w (zq (.int (nI (zs_cE a p e (2 ^ a.1 0 0)))) w) := by
  refine zm_C.of mtX7_statesWithErrors.1.2.2.2.2.2.2 rfl (Nat.le_of_ble_eq_true rfl) ?_
  exact gX7_statesWithErrors_0 (l_statesWithErrors h hp12 he28 (2 ^ a.1 0 0) 0 (by omega))
theorem k_belongsC {d : Nat} {a : zs_A} {w : zm_S} (h : zc_P a w) (p x : Int32) : zm_C zc_H (d + 4) mX7_belongs [.ref 0, .int p, .int x] w (zp (.int (zs_belongs a p x)) (zc_P a)) := by
  refine zm_C.of mtX7_belongs.1.2.2.2.2.2.2 rfl (Nat.le_of_ble_eq_true rfl) ?_
  have bad : ∀ (hb : ¬ ((0 ≤ p ∧ p < 12) ∧ 0 ≤ x ∧ x < 3)), zm_T zc_H (d + 4) mX7_belongs (zp (.int (zs_belongs a p x)) (zc_P a)) 17 [] [] w := fun hb => gX7_belongs_17 (by rw [zs_belongs, if_neg hb]; exact ⟨rfl, h⟩)
  refine gX7_belongs_0 (k_within _ _) (zq_i ?_)
  refine gX7_belongs_6 (fun g => bad (fun c => zi_0.mp g c.1)) (fun g1 => ?_)
  refine gX7_belongs_9 (k_within _ _) (zq_i ?_)
  refine gX7_belongs_14 (fun g2 => ?_) (fun g => bad (fun c => zi_0.mp g c.2))
  have hG : (0 ≤ p ∧ p < 12) ∧ 0 ≤ x ∧ x < 3 := ⟨zi_n0.mp g1, zi_n0.mp g2⟩
  obtain ⟨p, hp, rfl⟩ := zx_of (n := 12) hG.1 (by decide)
  obtain ⟨x, hx, rfl⟩ := zx_of (n := 3) hG.2 (by decide)
  rw [zs_belongs, if_pos hG, zx_clamp (by omega), zx_clamp (by omega), zs_blw]
  refine gX7_belongs_20 (k_findStates h) (zp_v (fun u hu => ?_))
  obtain ⟨hQ, -, -⟩ := hu
  have ha := hQ.1.1.1
  have hp2 := zn_pow ha
  obtain ⟨o1, o2, o3⟩ := zs_own_ok ha p
  have oe := zs_own_err ha p
  have hel := zs_err_le a p (zs_own a p)
  refine gX7_belongs_24 (k_stateOf hQ hp) (zq_i ?_)
  refine gX7_belongs_29 (fun g => ?_) (fun g => gX7_belongs_34 ?_)
  · have g' : ¬ x = 0 := fun q => g (by rw [q]; rfl)
    rw [if_neg g']
    refine gX7_belongs_36 (k_errorsWith hQ.1.1 hp (by omega)) (zq_i ?_)
    refine gX7_belongs_45 (fun g3 => ?_) (fun g3 => gX7_belongs_52 (gX7_belongs_64 ?_))
    · rw [if_neg (fun q => g3 (by rw [q]; rfl))]
      refine gX7_belongs_57 (k_statesWithErrors hQ hp (by omega)) (zq_i (gX7_belongs_64 ?_))
      rw [(zs_bl_min (a := a) p (2 ^ a.1 0 0)).2.2, oe]
      exact ⟨rfl, hQ.P⟩
    · rw [if_pos ((nI_eq (b := 1) (by omega) (by decide)).mp g3), oe]
      exact ⟨rfl, hQ.P⟩
  · rw [if_pos ((nI_eq (b := 0) (by omega) (by decide)).mp g), o3]
    exact ⟨rfl, hQ.P⟩
/-! next -/
theorem zy_xor_lt2 {n s q : Nat} (hs : s < 2 ^ n) (hq : q < n) : s ^^^ 2 ^ q < 2 ^ n := Nat.xor_lt_two_pow hs (Nat.pow_lt_pow_right (by decide) hq)
theorem l_neighbours {d : Nat} {a : zs_A} {w : zm_S} (ha : zs_ok a) (h : zc_b a w) {s : Nat} (hs : s < 2 ^ a.1 0 0) : ∀ (m k : Nat), k + m = a.1 0 0 → zm_T zc_H d mX6_neighbours (zq (.int (nI (zb (fun q => zs_st a (s ^^^ 2 ^ q)) (a.1 0 0)))) w) 4 [(0, .ref 23), (1, .int (nI s)), (2, .int (nI (zb (fun q => zs_st a (s ^^^ 2 ^ q)) k))), (3, .int (nI k))] [] w := by
  intro m
  have hn := ha.1
  have hp := zn_pow ha
  induction m with
  | zero =>
    intro k hk
    obtain rfl : k = a.1 0 0 := by omega
    exact gX6_neighbours_4 (fun _ => gX6_neighbours_41 (zq_m _ _)) (fun q => absurd (by rw [h.1]; exact Int32.le_refl _) q)
  | succ m ih =>
    intro k hk
    have next := ih (k + 1) (by omega)
    have hx := zy_xor_lt2 hs (q := k) (by omega)
    have e : nI s ^^^ 1 <<< (nI k &&& 31) = nI (s ^^^ 2 ^ k) := by rw [zy_bit k (by omega), fb_xorI]
    have e25 : w.1 25 (nI s ^^^ 1 <<< (nI k &&& 31)).toNatClampNeg = zi (zs_st a (s ^^^ 2 ^ k) = true) := by rw [e, zx_clamp (by omega)]; exact (h.2.2.2 _ hx).1
    rw [zb] at next
    refine gX6_neighbours_4 (fun q => absurd q (by rw [h.1]; exact nI_ge (by omega) (by omega))) (fun _ => ?_)
    refine gX6_neighbours_12 (by rw [e]; exact vp_in_nI (by omega) (by decide)) (fun g => gX6_neighbours_32 (gX6_neighbours_33 ?_)) (fun g => gX6_neighbours_26 (gX6_neighbours_33 ?_))
    · rw [e25] at g
      rw [if_neg (zi_0.mp g)] at next
      rw [show (0 : Int32) = nI 0 from rfl, fa_or, nI_1]
      exact next
    · rw [e25] at g
      rw [if_pos (zi_n0.mp g)] at next
      rw [zy_bit k (by omega), fa_or, nI_1]
      exact next
theorem k_neighbours {d : Nat} {a : zs_A} {w : zm_S} (ha : zs_ok a) (h : zc_b a w) {s : Nat} (hs : s < 2 ^ a.1 0 0) : zm_C zc_H d mX6_neighbours [.ref 23, .int (nI s)] w (zq (.int (nI (zb (fun q => zs_st a (s ^^^ 2 ^ q)) (a.1 0 0)))) w) := by
  refine zm_C.of mtX6_neighbours.1.2.2.2.2.2.2 rfl (Nat.le_of_ble_eq_true rfl) ?_
  exact gX6_neighbours_0 (l_neighbours ha h hs (a.1 0 0) 0 (by omega))
theorem zs_inT {a : zs_A} (h : zs_ok a) (s : Nat) : s &&& (2 ^ a.1 0 0 - 1) < 2 ^ a.1 0 0 := by
  have hp := zn_pow h
  have := @Nat.and_le_right s (2 ^ a.1 0 0 - 1)
  omega
theorem c_next {d : Nat} {a : zs_A} {w : zm_S} (h : zc_P a w) (s x : Int32) : zm_C zc_H (d + 4) mX7_next [.ref 0, .int s, .int x] w (zp (.int (zs_next a s x)) (zc_P a)) := by
  refine zm_C.of mtX7_next.1.2.2.2.2.2.2 rfl (Nat.le_of_ble_eq_true rfl) ?_
  have bad : ∀ (hb : ¬ ((0 ≤ s ∧ s < 128) ∧ 0 ≤ x ∧ x < 3)), zm_T zc_H (d + 4) mX7_next (zp (.int (zs_next a s x)) (zc_P a)) 18 [] [] w := fun hb => gX7_next_18 (by rw [zs_next, if_neg hb]; exact ⟨rfl, h⟩)
  refine gX7_next_0 (k_within _ _) (zq_i ?_)
  refine gX7_next_7 (fun g => bad (fun c => zi_0.mp g c.1)) (fun g1 => ?_)
  refine gX7_next_10 (k_within _ _) (zq_i ?_)
  refine gX7_next_15 (fun g2 => ?_) (fun g => bad (fun c => zi_0.mp g c.2))
  have hG : (0 ≤ s ∧ s < 128) ∧ 0 ≤ x ∧ x < 3 := ⟨zi_n0.mp g1, zi_n0.mp g2⟩
  obtain ⟨s, hs, rfl⟩ := zx_of (n := 128) hG.1 (by decide)
  obtain ⟨x, hx, rfl⟩ := zx_of (n := 3) hG.2 (by decide)
  rw [zs_next, if_pos hG, zx_clamp (by omega), zx_clamp (by omega)]
  refine gX7_next_21 (k_findStates h) (zp_v (fun u hu => ?_))
  obtain ⟨hQ, -, -⟩ := hu
  have ha := hQ.1.1.1
  have hn := ha.1
  have hp2 := zn_pow ha
  have hin := zs_inT ha s
  have e6 : nI s &&& u.1 23 6 = nI (s &&& (2 ^ a.1 0 0 - 1)) := by rw [hQ.2.2.2.2.1, fa_and]
  rw [← show nI 2 = (2 : Int32) from rfl]
  refine gX7_next_25 (fun g => ?_) (fun g => ?_)
  · rw [e6]
    have g' : ¬ x = 2 := fun q => g (by rw [q]; rfl)
    rw [if_neg (by rw [nI_eq (by omega) (by omega)]; exact g')]
    generalize s &&& (2 ^ a.1 0 0 - 1) = t at hin e6 ⊢
    have hzb := zb_lt7 (fun q => zs_st a (t ^^^ 2 ^ q)) (m := a.1 0 0) (by omega)
    refine gX7_next_58 (k_neighbours ha hQ.2.2.2 hin) (zq_i ?_)
    refine gX7_next_66 (fun g3 => gX7_next_76 (gX7_next_77 ?_)) (fun g3 => gX7_next_70 (gX7_next_77 ?_))
    · have x1 : x = 1 := by
        have : ¬ x = 0 := fun q => g3 (by rw [q]; rfl)
        omega
      rw [fa_and, zb_andN, x1]
      refine ⟨?_, hQ.P⟩
      congr 2
      exact zb_cong (fun i _ => by cases hb : t.testBit i <;> simp [hb])
    · have x0 : x = 0 := (nI_eq (b := 0) (by omega) (by decide)).mp g3
      rw [zy_not hzb (by omega), zb_andN, x0]
      refine ⟨?_, hQ.P⟩
      congr 2
      refine zb_cong (fun i hi => ?_)
      rw [Nat.testBit_xor, show (127 : Nat).testBit i = true by rw [show 127 = 2 ^ 7 - 1 from rfl, Nat.testBit_two_pow_sub_one]; exact decide_eq_true (by omega)]
      cases hb : t.testBit i <;> simp
  · rw [e6, if_pos (show nI x = nI 2 from g)]
    refine gX7_next_40 (vp_in_nI (by omega) (by decide)) (fun g3 => gX7_next_56 ?_) (fun g3 => gX7_next_52 ?_)
    · rw [zx_clamp (by omega), (hQ.2.2.2.2.2.2 _ hin).1] at g3
      rw [zi_f (zi_0.mp g3)]; exact ⟨rfl, hQ.P⟩
    · rw [zx_clamp (by omega), (hQ.2.2.2.2.2.2 _ hin).1] at g3
      rw [zi_t (zi_n0.mp g3)]; exact ⟨rfl, hQ.P⟩
