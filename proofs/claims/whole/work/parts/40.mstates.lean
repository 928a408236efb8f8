theorem zn_pow {a : zs_A} (h : zs_ok a) : 4 ≤ 2 ^ a.1 0 0 ∧ 2 ^ a.1 0 0 ≤ 128 := ⟨Nat.pow_le_pow_right (n := 2) (i := 2) (by decide) h.1.1, Nat.pow_le_pow_right (n := 2) (j := 7) (by decide) h.1.2.1⟩
def zs_cnt (a : zs_A) (k : Nat) : Nat := fb_ct (zs_st a) k
theorem zs_cnt_1 (a : zs_A) (k : Nat) : zs_cnt a (k + 1) = zs_cnt a k + (if zs_st a k = true then 1 else 0) := fb_ct_succ _ _
def zs_stl (a : zs_A) (i : Int32) : Nat → Nat → Int32
  | 0, k => if i = -1 then nI (zs_cnt a k) else -1
  | m + 1, k => if zs_st a k = true then (if nI (zs_cnt a k) = i then nI k else zs_stl a i m (k + 1)) else zs_stl a i m (k + 1)
def zs_states (a : zs_A) (i : Int32) : Int32 := if i < -1 then -2 else zs_stl a i (2 ^ a.1 0 0) 0
theorem l_statesOf {d : Nat} {a : zs_A} {v : zm_S} (h : zd_V a v) (i : Int32) : ∀ (m k : Nat), k + m = 2 ^ a.1 0 0 → zm_T zd_H (d + 2) mX8_statesOf (zp (.int (zs_stl a i m k)) (zd_V a)) 8 [(0, .ref 0), (1, .int i), (2, .int (nI (zs_cnt a k))), (3, .int (nI k))] [] v := by
  intro m
  have hp := zn_pow h.1.1
  induction m with
  | zero =>
    intro k hk
    refine gX8_statesOf_8 (k_whole h.1) (zq_i ?_)
    refine gX8_statesOf_13 (fun _ => ?_) (fun q => absurd (nI_lt (by omega) (by omega)) q)
    refine gX8_statesOf_40 (fun q => gX8_statesOf_49 ?_) (fun q => gX8_statesOf_45 ?_)
    · rw [zs_stl, if_neg q]
      exact ⟨rfl, h⟩
    · rw [zs_stl, if_pos q]
      exact ⟨rfl, h⟩
  | succ m ih =>
    intro k hk
    have next := ih (k + 1) (by omega)
    rw [zs_cnt_1] at next
    refine gX8_statesOf_8 (k_whole h.1) (zq_i ?_)
    refine gX8_statesOf_13 (fun q => absurd q (nI_nlt (by omega) (by omega))) (fun _ => ?_)
    refine gX8_statesOf_16 (k_isState h.1 h.2.2.2 (by omega)) (zq_i ?_)
    refine gX8_statesOf_21 (fun q => ?_) (fun q => ?_)
    · rw [zi_0] at q
      rw [zs_stl, if_neg q]
      rw [if_neg q, Nat.add_zero] at next
      refine gX8_statesOf_34 ?_
      rw [nI_1]
      exact next
    · rw [zi_n0] at q
      rw [zs_stl, if_pos q]
      rw [if_pos q] at next
      refine gX8_statesOf_24 (fun g => ?_) (fun g => gX8_statesOf_29 ?_)
      · rw [if_neg g]
        refine gX8_statesOf_31 (gX8_statesOf_34 ?_)
        rw [nI_1, nI_1]
        exact next
      · rw [if_pos g]
        exact ⟨rfl, h⟩
theorem k_statesOf {d : Nat} {a : zs_A} {v : zm_S} (h : zd_P a v) (i : Int32) : zm_C zd_H (d + 6) mX8_statesOf [.ref 0, .int i] v (zp (.int (zs_stl a i (2 ^ a.1 0 0) 0)) (zd_V a)) := by
  refine zm_C.of mtX8_statesOf.1.2.2.2.2.2.2 rfl (Nat.le_of_ble_eq_true rfl) ?_
  refine gX8_statesOf_0 (k_findNeeds h) (zp_v (fun u hu => gX8_statesOf_4 ?_))
  exact l_statesOf hu i (2 ^ a.1 0 0) 0 (by omega)
theorem m_states {d : Nat} {a : zs_A} {v : zm_S} (h : zd_P a v) (i : Int32) : zm_C zd_H (d + 7) mX8_states [.ref 0, .int i] v (zp (.int (zs_states a i)) (zd_P a)) := by
  refine zm_C.of mtX8_states.1.2.2.2.2.2.2 rfl (Nat.le_of_ble_eq_true rfl) ?_
  refine gX8_states_0 (fun g => gX8_states_13 ?_) (fun g => ?_)
  · rw [zs_states, if_pos g]
    exact ⟨rfl, h⟩
  · refine gX8_states_5 (k_statesOf h i) (zp_i (fun u hu => gX8_states_10 ?_))
    rw [zs_states, if_neg g]
    exact ⟨rfl, hu.1⟩
/-- belongs: the state, the errors, how many -/
def zs_bl (a : zs_A) (p : Nat) : Nat → Int32 × Nat × Nat
  | 0 => (-1, 10000, 0)
  | k + 1 => if zs_st a k = true then
      (if zs_err a p k < (zs_bl a p k).2.1 then nI k else (zs_bl a p k).1, if zs_err a p k < (zs_bl a p k).2.1 then zs_err a p k else (zs_bl a p k).2.1,
        if zs_err a p k < (zs_bl a p k).2.1 then 1 else if zs_err a p k = (zs_bl a p k).2.1 then (zs_bl a p k).2.2 + 1 else (zs_bl a p k).2.2)
    else zs_bl a p k
theorem zs_err_le (a : zs_A) (p s : Nat) : zs_err a p s ≤ 28 := by
  have h1 := zpc_le (zs_Y a p &&& (127 ^^^ s))
  have h2 := zpc_le (zs_N a p &&& s)
  unfold zs_err
  omega
theorem zs_bl_le (a : zs_A) (p : Nat) : ∀ k, (zs_bl a p k).2.1 ≤ 10000
  | 0 => Nat.le_refl _
  | k + 1 => by
    have ih := zs_bl_le a p k
    have := zs_err_le a p k
    rw [zs_bl]
    split
    · simp only
      split <;> omega
    · exact ih
def zs_blw (a : zs_A) (p w : Nat) : Int32 := if w = 0 then (zs_bl a p (2 ^ a.1 0 0)).1 else if w = 1 then nI (zs_bl a p (2 ^ a.1 0 0)).2.1 else nI (zs_bl a p (2 ^ a.1 0 0)).2.2
theorem l_belongsOf {d : Nat} {a : zs_A} {v : zm_S} (h : zd_V a v) {p w : Nat} (hp12 : p < 12) (hw : w < 3) : ∀ (m k : Nat), k + m = 2 ^ a.1 0 0 → zm_T zd_H (d + 3) mX8_belongsOf (zq (.int (zs_blw a p w)) v) 17 [(0, .ref 0), (1, .int (nI p)), (2, .int (nI w)), (3, .int (zs_bl a p k).1), (4, .int (nI (zs_bl a p k).2.1)), (5, .int (nI (zs_bl a p k).2.2)), (6, .int (nI k))] [] v := by
  intro m
  have hp := zn_pow h.1.1
  induction m with
  | zero =>
    intro k hk
    refine gX8_belongsOf_17 (k_whole h.1) (zq_i ?_)
    refine gX8_belongsOf_23 (fun _ => ?_) (fun q => absurd (nI_lt (by omega) (by omega)) q)
    obtain rfl : k = 2 ^ a.1 0 0 := by omega
    refine gX8_belongsOf_109 (fun q => gX8_belongsOf_117 (fun q2 => gX8_belongsOf_127 ?_) (fun q2 => gX8_belongsOf_122 ?_)) (fun q => gX8_belongsOf_113 ?_)
    · rw [zs_blw, if_neg (fun z => q (by rw [z]; rfl)), if_neg (fun z => q2 (by rw [z]; rfl))]
      exact zq_m _ _
    · rw [zs_blw, if_neg (fun z => q (by rw [z]; rfl)), if_pos ((nI_eq (b := 1) (by omega) (by decide)).mp q2)]
      exact zq_m _ _
    · rw [zs_blw, if_pos ((nI_eq (b := 0) (by omega) (by decide)).mp q)]
      exact zq_m _ _
  | succ m ih =>
    intro k hk
    have next := ih (k + 1) (by omega)
    have hle := zs_bl_le a p k
    have hel := zs_err_le a p k
    refine gX8_belongsOf_17 (k_whole h.1) (zq_i ?_)
    refine gX8_belongsOf_23 (fun q => absurd q (nI_nlt (by omega) (by omega))) (fun _ => ?_)
    refine gX8_belongsOf_26 (k_isState h.1 h.2.2.2 (by omega)) (zq_i ?_)
    refine gX8_belongsOf_32 (fun q => ?_) (fun q => ?_)
    · rw [zi_0] at q
      rw [zs_bl, if_neg q] at next
      refine gX8_belongsOf_103 ?_
      rw [nI_1]
      exact next
    · rw [zi_n0] at q
      rw [zs_bl, if_pos q] at next
      simp only at next
      refine gX8_belongsOf_35 (k_errorsOf h.1 h.2.1 hp12 (by omega)) (zq_i ?_)
      have e1 : nI (zs_bl a p k).2.1 ≤ nI (zs_err a p k) ↔ (zs_bl a p k).2.1 ≤ zs_err a p k := nI_leI (by omega) (by omega)
      by_cases g : zs_err a p k < (zs_bl a p k).2.1
      · have g2 : ¬ nI (zs_bl a p k).2.1 ≤ nI (zs_err a p k) := fun z => by rw [e1] at z; omega
        rw [if_pos g, if_pos g, if_pos g] at next
        refine gX8_belongsOf_42 (fun z => absurd z g2) (fun _ => gX8_belongsOf_51 ?_)
        refine gX8_belongsOf_57 (fun z => absurd z g2) (fun _ => gX8_belongsOf_65 ?_)
        refine gX8_belongsOf_85 (fun z => absurd z g2) (fun _ => gX8_belongsOf_94 (gX8_belongsOf_101 (gX8_belongsOf_103 ?_)))
        rw [nI_1]
        exact next
      · have g2 : nI (zs_bl a p k).2.1 ≤ nI (zs_err a p k) := e1.mpr (by omega)
        rw [if_neg g, if_neg g, if_neg g] at next
        refine gX8_belongsOf_42 (fun _ => gX8_belongsOf_56 ?_) (fun z => absurd g2 z)
        refine gX8_belongsOf_57 (fun _ => ?_) (fun z => absurd g2 z)
        refine gX8_belongsOf_69 (fun z => gX8_belongsOf_83 ?_) (fun z => gX8_belongsOf_76 ?_)
        · rw [nI_eq (by omega) (by omega)] at z
          rw [if_neg z] at next
          refine gX8_belongsOf_85 (fun _ => gX8_belongsOf_99 (gX8_belongsOf_101 (gX8_belongsOf_103 ?_))) (fun z => absurd g2 z)
          rw [nI_1]
          exact next
        · rw [nI_eq (by omega) (by omega)] at z
          rw [if_pos z] at next
          refine gX8_belongsOf_85 (fun _ => gX8_belongsOf_99 (gX8_belongsOf_101 (gX8_belongsOf_103 ?_))) (fun z => absurd g2 z)
          rw [nI_1, nI_1]
          exact next
theorem k_belongsOf_g {d : Nat} {a : zs_A} {v : zm_S} (h : zd_P a v) {p w : Nat} (hp12 : p < 12) (hw : w < 3) : zm_C zd_H (d + 6) mX8_belongsOf [.ref 0, .int (nI p), .int (nI w)] v (zp (.int (zs_blw a p w)) (fun u => zd_V a u ∧ ∀ k, 14 ≤ k → u.1 k = v.1 k)) := by
  refine zm_C.of mtX8_belongsOf.1.2.2.2.2.2.2 rfl (Nat.le_of_ble_eq_true rfl) ?_
  refine gX8_belongsOf_0 (k_findNeeds_g h) (zp_v (fun u hu => gX8_belongsOf_4 ?_))
  refine zm_T.post (fun r z hz => ?_) (l_belongsOf hu.1 hp12 hw (2 ^ a.1 0 0) 0 (by omega))
  obtain ⟨q1, rfl⟩ := hz
  exact ⟨q1, hu⟩
theorem k_belongsOf {d : Nat} {a : zs_A} {v : zm_S} (h : zd_P a v) {p w : Nat} (hp12 : p < 12) (hw : w < 3) : zm_C zd_H (d + 6) mX8_belongsOf [.ref 0, .int (nI p), .int (nI w)] v (zp (.int (zs_blw a p w)) (zd_V a)) := (k_belongsOf_g h hp12 hw).post (fun _ _ q => ⟨q.1, q.2.1⟩)
def zs_belongs (a : zs_A) (p w : Int32) : Int32 := if (0 ≤ p ∧ p < 12) ∧ 0 ≤ w ∧ w < 3 then zs_blw a p.toNatClampNeg w.toNatClampNeg else -2
theorem m_belongs {d : Nat} {a : zs_A} {v : zm_S} (h : zd_P a v) (p w : Int32) : zm_C zd_H (d + 7) mX8_belongs [.ref 0, .int p, .int w] v (zp (.int (zs_belongs a p w)) (zd_P a)) := by
  refine zm_C.of mtX8_belongs.1.2.2.2.2.2.2 rfl (Nat.le_of_ble_eq_true rfl) ?_
  have bad : ∀ (hb : ¬ ((0 ≤ p ∧ p < 12) ∧ 0 ≤ w ∧ w < 3)), zm_T zd_H (d + 7) mX8_belongs (zp (.int (zs_belongs a p w)) (zd_P a)) 28 [] [] v := fun hb => gX8_belongs_28 (by rw [zs_belongs, if_neg hb]; exact ⟨rfl, h⟩)
  refine gX8_belongs_0 (k_isPupil p) (zq_i ?_)
  refine gX8_belongs_4 (fun g => bad (fun c => zi_0.mp g c.1)) (fun g1 => ?_)
  refine gX8_belongs_7 (k_inI w 0 2 rfl rfl) (zq_i ?_)
  refine gX8_belongs_16 (fun g => bad (fun c => zx_lt3n g c.2)) (fun g2 => ?_)
  have hG : (0 ≤ p ∧ p < 12) ∧ 0 ≤ w ∧ w < 3 := ⟨zi_n0.mp g1, zx_lt3 g2⟩
  obtain ⟨p, hp, rfl⟩ := zx_of (n := 12) hG.1 (by decide)
  obtain ⟨w, hw, rfl⟩ := zx_of (n := 3) hG.2 (by decide)
  refine gX8_belongs_19 (k_belongsOf h hp hw) (zp_i (fun u hu => gX8_belongs_25 ?_))
  rw [zs_belongs, if_pos hG, zx_clamp (by omega), zx_clamp (by omega)]
  exact ⟨rfl, hu.1⟩
/-- next and last -/
def zs_nx (a : zs_A) (s w : Nat) (m : Nat) : Nat := zb (fun q => decide (s.testBit q = decide (w = 1)) && zs_st a (s ^^^ 2 ^ q)) m
def zs_next (a : zs_A) (s w : Int32) : Int32 :=
  if (0 ≤ s ∧ s < 128) ∧ 0 ≤ w ∧ w < 3 then
    if w = 2 then zi (zs_st a (s.toNatClampNeg &&& (2 ^ a.1 0 0 - 1)) = true) else nI (zs_nx a (s.toNatClampNeg &&& (2 ^ a.1 0 0 - 1)) w.toNatClampNeg (a.1 0 0))
  else -2
theorem l_next {d : Nat} {a : zs_A} {v : zm_S} (h : zd_V a v) {s w : Nat} (hs : s < 128) (hw : w < 3) : ∀ (m k : Nat), k + m = a.1 0 0 → zm_T zd_H (d + 2) mX8_next (zp (.int (nI (zs_nx a s w (a.1 0 0)))) (zd_P a)) 63 [(0, .ref 0), (2, .int (nI w)), (3, .int (nI s)), (4, .int (nI (zs_nx a s w k))), (5, .int (nI k))] [] v := by
  intro m
  have hn := h.1.1.1
  induction m with
  | zero =>
    intro k hk
    obtain rfl : k = a.1 0 0 := by omega
    refine gX8_next_63 (k_n h.1) (zq_i ?_)
    exact gX8_next_69 (fun _ => gX8_next_135 ⟨rfl, h.1⟩) (fun q => absurd (Int32.le_refl _) q)
  | succ m ih =>
    intro k hk
    have next := ih (k + 1) (by omega)
    have no : ∀ (g : (decide (s.testBit k = decide (w = 1)) && zs_st a (s ^^^ 2 ^ k)) = false), zm_T zd_H (d + 2) mX8_next (zp (.int (nI (zs_nx a s w (a.1 0 0)))) (zd_P a)) 125 [(0, .ref 0), (2, .int (nI w)), (3, .int (nI s)), (5, .int (nI k))] [.int (nI (zs_nx a s w k))] v := fun g => by
      refine gX8_next_125 (gX8_next_126 ?_)
      rw [show zs_nx a s w (k + 1) = zs_nx a s w k ||| (if (decide (s.testBit k = decide (w = 1)) && zs_st a (s ^^^ 2 ^ k)) = true then 2 ^ k else 0) from rfl, g] at next
      rw [show (0 : Int32) = nI 0 from rfl, fa_or, nI_1]
      exact next
    refine gX8_next_63 (k_n h.1) (zq_i ?_)
    refine gX8_next_69 (fun q => absurd q (nI_ge (by omega) (by omega))) (fun _ => ?_)
    refine gX8_next_72 (k_isIn (by omega) (by omega)) (zq_i ?_)
    have e1 : nI w = 1 ↔ w = 1 := nI_eq (b := 1) (by omega) (by decide)
    have go : zm_T zd_H (d + 2) mX8_next (zp (.int (nI (zs_nx a s w (a.1 0 0)))) (zd_P a)) 88 [(0, .ref 0), (2, .int (nI w)), (3, .int (nI s)), (4, .int (nI (zs_nx a s w k))), (5, .int (nI k))] [.int (zi (w = 1)), .int (zi (s.testBit k = true))] v := by
      have ee : zi (s.testBit k = true) = zi (w = 1) ↔ s.testBit k = decide (w = 1) := by
        by_cases z1 : w = 1 <;> cases z2 : s.testBit k <;> simp [zi, z1]
      refine gX8_next_88 (fun g => gX8_next_95 (gX8_next_96 (fun _ => no ?_) (fun z => absurd rfl z))) (fun g => gX8_next_91 (gX8_next_96 (fun z => absurd z (by decide)) (fun _ => ?_)))
      · rw [ee] at g
        rw [decide_eq_false g, Bool.false_and]
      · rw [ee] at g
        refine gX8_next_105 (by rw [zy_bit k (by omega), fb_xorI]; exact k_isState h.1 h.2.2.2 (zy_xor_lt hs (zy_lt (by omega)))) (zq_i ?_)
        refine gX8_next_115 (fun g2 => no ?_) (fun g2 => gX8_next_118 (gX8_next_126 ?_))
        · rw [zi_0] at g2
          rw [Bool.not_eq_true _ |>.mp g2, Bool.and_false]
        · rw [zi_n0] at g2
          rw [show zs_nx a s w (k + 1) = zs_nx a s w k ||| (if (decide (s.testBit k = decide (w = 1)) && zs_st a (s ^^^ 2 ^ k)) = true then 2 ^ k else 0) from rfl, decide_eq_true g, g2] at next
          rw [zy_bit k (by omega), fa_or, nI_1]
          exact next
    refine gX8_next_78 (fun g => gX8_next_87 ?_) (fun g => gX8_next_83 ?_)
    · rw [e1] at g
      rw [zi_f g] at go
      exact go
    · rw [e1] at g
      rw [zi_t g] at go
      exact go
theorem m_next {d : Nat} {a : zs_A} {v : zm_S} (h : zd_P a v) (s w : Int32) : zm_C zd_H (d + 6) mX8_next [.ref 0, .int s, .int w] v (zp (.int (zs_next a s w)) (zd_P a)) := by
  refine zm_C.of mtX8_next.1.2.2.2.2.2.2 rfl (Nat.le_of_ble_eq_true rfl) ?_
  have bad : ∀ (hb : ¬ ((0 ≤ s ∧ s < 128) ∧ 0 ≤ w ∧ w < 3)), zm_T zd_H (d + 6) mX8_next (zp (.int (zs_next a s w)) (zd_P a)) 24 [] [] v := fun hb => gX8_next_24 (by rw [zs_next, if_neg hb]; exact ⟨rfl, h⟩)
  refine gX8_next_0 (k_in127 s) (zq_i ?_)
  refine gX8_next_9 (fun g => bad (fun c => zi_0.mp g c.1)) (fun g1 => ?_)
  refine gX8_next_12 (k_inI w 0 2 rfl rfl) (zq_i ?_)
  refine gX8_next_21 (fun g2 => ?_) (fun g => bad (fun c => zx_lt3n g c.2))
  have hG : (0 ≤ s ∧ s < 128) ∧ 0 ≤ w ∧ w < 3 := ⟨zi_n0.mp g1, zx_lt3 g2⟩
  obtain ⟨s, hs, rfl⟩ := zx_of (n := 128) hG.1 (by decide)
  obtain ⟨w, hw, rfl⟩ := zx_of (n := 3) hG.2 (by decide)
  have hcs : (nI s).toNatClampNeg = s := zx_clamp (by omega)
  have hcw : (nI w).toNatClampNeg = w := zx_clamp (by omega)
  have hand := zy_and_lt (y := 2 ^ a.1 0 0 - 1) hs
  refine gX8_next_27 (k_findNeeds h) (zp_v (fun u hu => ?_))
  refine gX8_next_31 (k_whole hu.1) (zq_i ?_)
  refine gX8_next_36 (fun g => ?_) (fun g => ?_)
  · rw [fa_and]
    refine gX8_next_57 ?_
    rw [zs_next, if_pos hG, if_neg g, hcs, hcw]
    exact l_next hu hand hw (a.1 0 0) 0 (by omega)
  · rw [fa_and]
    refine gX8_next_43 (k_isState hu.1 hu.2.2.2 hand) (zq_i ?_)
    rw [zs_next, if_pos hG, if_pos g, hcs]
    refine gX8_next_48 (fun g2 => gX8_next_55 ?_) (fun g2 => gX8_next_51 ?_)
    · rw [zi_f (zi_0.mp g2)]
      exact ⟨rfl, hu.1⟩
    · rw [zi_t (zi_n0.mp g2)]
      exact ⟨rfl, hu.1⟩
