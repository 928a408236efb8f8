/-! ===== the digest ===== -/
theorem k_join {d : Nat} {w : zm_S} (h p : Int64) : zm_C zc_H d mX7_join [.long h, .long p] w (zq (.long (31 * h + p)) w) := by
  refine zm_C.of mtX7_join.1.2.2.2.2.2.2 rfl (Nat.le_of_ble_eq_true rfl) ?_
  exact gX7_join_0 (zq_m _ _)
theorem zx_bd {x n : Nat} (h : x < n) (hn : n < 2 ^ 31) : 0 ≤ nI x ∧ nI x < nI n := ⟨nI_pos' (by omega), nI_lt h hn⟩
theorem v_step {a : zs_A} {p x : Nat} (hp : p < 12) (hx : x < 2) : zs_step a (nI p) (nI x) = nI (zs_spw a p x) := by
  rw [zs_step, if_pos ⟨zx_bd (n := 12) hp (by decide), zx_bd (n := 2) hx (by decide)⟩, zx_clamp (by omega), zx_clamp (by omega)]
theorem v_belongs {a : zs_A} {p x : Nat} (hp : p < 12) (hx : x < 3) : zs_belongs a (nI p) (nI x) = zs_blw a p x := by
  rw [zs_belongs, if_pos ⟨zx_bd (n := 12) hp (by decide), zx_bd (n := 3) hx (by decide)⟩, zx_clamp (by omega), zx_clamp (by omega)]
theorem v_likeliest {a : zs_A} {p : Nat} (hp : p < 12) : zs_likeliest a (nI p) 2 3 = (zs_lk a p 2 3 (2 ^ a.1 0 0)).1 := by
  rw [zs_likeliest, if_pos ⟨zx_bd (n := 12) hp (by decide), by decide, by decide⟩, zx_clamp (by omega)]
  rfl
theorem v_row {a : zs_A} (h : zs_ok a) {q : Nat} (hq : q < a.1 0 0) : zs_row a (nI q) = nI ((zs_best a none none).2.2.getD q 0) := by
  have hn := h.1.2.1
  rw [zs_row, if_pos (zx_bd hq (by omega)), zx_clamp (by omega)]
theorem v_without {a : zs_A} (h : zs_ok a) {q x : Nat} (hq : q < a.1 0 0) (hx : x < 2) : zs_without a (nI q) (nI x) = nI (zs_wo a q x) := by
  have hn := h.1.2.1
  rw [zs_without, if_pos ⟨zx_bd hq (by omega), zx_bd (n := 2) hx (by decide)⟩, zx_clamp (by omega), zx_clamp (by omega)]
theorem v_deep {a : zs_A} (h : zs_ok a) {q : Nat} (hq : q < a.1 0 0) : zs_deep a (nI q) = nI (zs_dp a q (2 ^ a.1 0 0)) := by
  have hn := h.1.2.1
  rw [zs_deep, if_pos (zx_bd hq (by omega)), zx_clamp (by omega)]
theorem v_needed {a : zs_A} (h : zs_ok a) {q y x : Nat} (hq : q < a.1 0 0) (hy : y < a.1 0 0) (hqy : q ≠ y) (hx : x < 2) : zs_needed a (nI q) (nI y) (nI x) = zi (zs_need a x q y = true) := by
  have hn := h.1.2.1
  rw [zs_needed, if_pos ⟨zx_bd hq (by omega), zx_bd hy (by omega), fun z => hqy ((nI_eq (by omega) (by omega)).mp z), zx_bd (n := 2) hx (by decide)⟩, zx_clamp (by omega), zx_clamp (by omega), zx_clamp (by omega)]
theorem v_fit {a : zs_A} {x y : Nat} (hx : x < 2) (hy : y < 2) : zs_fit a (nI x) (nI y) = zs_fitN a x y := by
  rw [zs_fit, if_pos ⟨zx_bd (n := 2) hx (by decide), zx_bd (n := 2) hy (by decide)⟩, zx_clamp (by omega), zx_clamp (by omega)]
theorem v_worst {a : zs_A} {x : Nat} (hx : x < 2) : zs_worst a (nI x) = (zs_wr2 a x (a.1 0 0)).1 := by
  rw [zs_worst, if_pos (show 0 ≤ nI x ∧ nI x < 2 from zx_bd (n := 2) hx (by decide)), zx_clamp (by omega)]
theorem v_count {a : zs_A} {x : Nat} (hx : x < 9) : zs_count a (nI x) = zs_countN a x := by
  rw [zs_count, if_pos (show 0 ≤ nI x ∧ nI x < 9 from zx_bd (n := 9) hx (by decide)), zx_clamp (by omega)]
theorem v_sure {a : zs_A} {x : Nat} (hx : x < 2) : zs_sure a 0 0 (nI x) = zs_sureN a 0 0 x := by
  rw [zs_sure, if_pos ⟨by decide, by decide, zx_bd (n := 2) hx (by decide)⟩, zx_clamp (by omega)]
  rfl
/-- a contract whose answer is known by another name -/
theorem zp_re {d : Nat} {M : zm_M} {as : List Value} {w : zm_S} {r r' : Value} {B : zm_S → Prop} (h : zm_C zc_H d M as w (zp r B)) (e : r = r') : zm_C zc_H d M as w (zp r' B) := e ▸ h
theorem l_jpu {d : Nat} {a : zs_A} {p : Nat} (hp : p < 12) {h : Int64} : ∀ (m k : Nat) (x : Int64) (w : zm_S), zc_P a w → k + m = 3 → (k = 0 ∧ x = h ∨ k = 1 ∧ x = zs_J h (zs_blw a p 0) ∨ k = 2 ∧ x = zs_J (zs_J h (zs_blw a p 0)) (zs_blw a p 1) ∨ k = 3 ∧ x = zs_J (zs_J (zs_J h (zs_blw a p 0)) (zs_blw a p 1)) (zs_blw a p 2)) → zm_T zc_H (d + 5) mX7_joinPupil (zp (.long (zs_J (zs_J (zs_J (zs_J h (zs_blw a p 0)) (zs_blw a p 1)) (zs_blw a p 2)) (zs_lk a p 2 3 (2 ^ a.1 0 0)).1)) (zc_P a)) 26 [(0, .ref 0), (3, .int (nI p)), (4, .long x), (6, .int (nI k))] [] w := by
  intro m
  induction m with
  | zero =>
    intro k x w hw hk hx
    obtain rfl : k = 3 := by omega
    obtain ⟨-, rfl⟩ : 3 = 3 ∧ x = zs_J (zs_J (zs_J h (zs_blw a p 0)) (zs_blw a p 1)) (zs_blw a p 2) := by
      rcases hx with q | q | q | q
      · omega
      · omega
      · omega
      · exact q
    refine gX7_joinPupil_26 (fun _ => ?_) (fun q => absurd (Int32.le_refl _) q)
    refine gX7_joinPupil_53 (zp_re (c_likeliest hw _ _ _) (by rw [v_likeliest hp])) (zp_i (fun u hu => ?_))
    exact gX7_joinPupil_62 (k_join _ _) (zq_l (gX7_joinPupil_66 ⟨rfl, hu⟩))
  | succ m ih =>
    intro k x w hw hk hx
    refine gX7_joinPupil_26 (fun q => absurd q (nI_ge (b := 3) (by omega) (by decide))) (fun _ => ?_)
    refine gX7_joinPupil_32 (zp_re (k_belongsC hw _ _) (by rw [v_belongs hp (by omega)])) (zp_i (fun u hu => ?_))
    refine gX7_joinPupil_41 (k_join _ _) (zq_l (gX7_joinPupil_45 ?_))
    rw [nI_1]
    refine ih (k + 1) _ u hu (by omega) ?_
    rcases hx with ⟨rfl, rfl⟩ | ⟨rfl, rfl⟩ | ⟨rfl, rfl⟩ | ⟨rfl, rfl⟩
    · exact Or.inr (Or.inl ⟨rfl, rfl⟩)
    · exact Or.inr (Or.inr (Or.inl ⟨rfl, rfl⟩))
    · exact Or.inr (Or.inr (Or.inr ⟨rfl, rfl⟩))
    · omega
theorem k_joinPupil {d : Nat} {a : zs_A} {w : zm_S} (hw : zc_P a w) {p : Nat} (hp : p < 12) (h : Int64) : zm_C zc_H (d + 11) mX7_joinPupil [.ref 0, .long h, .int (nI p)] w (zp (.long (zs_dpu a p h)) (zc_P a)) := by
  refine zm_C.of mtX7_joinPupil.1.2.2.2.2.2.2 rfl (Nat.le_of_ble_eq_true rfl) ?_
  refine gX7_joinPupil_0 (zp_re (c_step hw _ _) (by rw [show zs_step a (nI p) 0 = nI (zs_spw a p 0) from v_step (x := 0) hp (by decide)])) (zp_i (fun u hu => ?_))
  refine gX7_joinPupil_7 (k_join _ _) (zq_l ?_)
  refine gX7_joinPupil_11 (zp_re (c_step hu _ _) (by rw [show zs_step a (nI p) 1 = nI (zs_spw a p 1) from v_step (x := 1) hp (by decide)])) (zp_i (fun v hv => ?_))
  refine gX7_joinPupil_17 (k_join _ _) (zq_l (gX7_joinPupil_21 ?_))
  exact l_jpu (d := d + 6) hp (h := zs_J (zs_J h (nI (zs_spw a p 0))) (nI (zs_spw a p 1))) 3 0 _ v hv (by omega) (Or.inl ⟨rfl, rfl⟩)
theorem k_joinQuestion {d : Nat} {a : zs_A} {w : zm_S} (hw : zc_P a w) {q : Nat} (hq : q < a.1 0 0) (h : Int64) : zm_C zc_H (d + 11) mX7_joinQuestion [.ref 0, .long h, .int (nI q)] w (zp (.long (zs_dqu a q h)) (zc_P a)) := by
  have ha := hw.1.1.1
  have hn := ha.1
  have e9 := hw.1.1.2.1
  refine zm_C.of mtX7_joinQuestion.1.2.2.2.2.2.2 rfl (Nat.le_of_ble_eq_true rfl) ?_
  have go : ∀ y, y < a.1 0 0 → q ≠ y → (q + 1) % a.1 0 0 = y → zm_T zc_H (d + 11) mX7_joinQuestion (zp (.long (zs_dqu a q h)) (zc_P a)) 20 [(0, .ref 0), (1, .long h), (3, .int (nI q))] [.int (nI y)] w := by
    intro y hy hqy ey
    unfold zs_dqu
    rw [ey]
    refine gX7_joinQuestion_20 (zp_re (c_row hw _) (by rw [v_row ha hq])) (zp_i (fun u1 h1 => ?_))
    refine gX7_joinQuestion_28 (k_join _ _) (zq_l ?_)
    refine gX7_joinQuestion_32 (zp_re (c_without h1 _ _) (by rw [show zs_without a (nI q) 0 = nI (zs_wo a q 0) from v_without ha (x := 0) hq (by decide)])) (zp_i (fun u2 h2 => ?_))
    refine gX7_joinQuestion_42 (k_join _ _) (zq_l ?_)
    refine gX7_joinQuestion_46 (zp_re (c_without h2 _ _) (by rw [show zs_without a (nI q) 1 = nI (zs_wo a q 1) from v_without ha (x := 1) hq (by decide)])) (zp_i (fun u3 h3 => ?_))
    refine gX7_joinQuestion_52 (k_join _ _) (zq_l ?_)
    refine gX7_joinQuestion_56 (zp_re (c_deep h3 _) (by rw [v_deep ha hq])) (zp_i (fun u4 h4 => ?_))
    refine gX7_joinQuestion_65 (k_join _ _) (zq_l ?_)
    refine gX7_joinQuestion_69 (zp_re (c_needed h4 _ _ _) (by rw [show zs_needed a (nI q) (nI y) 0 = zi (zs_need a 0 q y = true) from v_needed ha (x := 0) hq hy hqy (by decide)])) (zp_i (fun u5 h5 => ?_))
    refine gX7_joinQuestion_81 (k_join _ _) (zq_l ?_)
    refine gX7_joinQuestion_85 (zp_re (c_needed h5 _ _ _) (by rw [show zs_needed a (nI q) (nI y) 1 = zi (zs_need a 1 q y = true) from v_needed ha (x := 1) hq hy hqy (by decide)])) (zp_i (fun u6 h6 => ?_))
    exact gX7_joinQuestion_93 (k_join _ _) (zq_l (gX7_joinQuestion_97 ⟨rfl, h6⟩))
  refine gX7_joinQuestion_0 (fun g => gX7_joinQuestion_19 ?_) (fun g => gX7_joinQuestion_13 ?_)
  · rw [e9, nI_1, nI_leI (by omega) (by omega)] at g
    exact go 0 (by omega) (by omega) (by rw [show q + 1 = a.1 0 0 by omega, Nat.mod_self])
  · rw [e9, nI_1, nI_leI (by omega) (by omega)] at g
    rw [nI_1]
    exact go (q + 1) (by omega) (by omega) (Nat.mod_eq_of_lt (by omega))
theorem l_dgC1 {d : Nat} {a : zs_A} {Q : Value → zm_S → Prop} (hk : ∀ u, zc_P a u → zm_T zc_H (d + 4) mX7_digest Q 29 [(0, .ref 0), (1, .long (zs_dc a 8))] [] u) : ∀ (m k : Nat) (w : zm_S), zc_P a w → k + m = 8 → zm_T zc_H (d + 4) mX7_digest Q 6 [(0, .ref 0), (1, .long (zs_dc a k)), (3, .int (nI k))] [] w := by
  intro m
  induction m with
  | zero =>
    intro k w h hk
    obtain rfl : k = 8 := by omega
    exact gX7_digest_6 (fun _ => by first | exact hk w h | (rename_i hk0 _; exact hk0 w h)) (fun q => absurd (by decide) q)
  | succ m ih =>
    intro k w h hk
    refine gX7_digest_6 (fun q => absurd q (fun z => by rw [show (7 : Int32) = nI 7 from rfl, nI_ltI (by decide) (by omega)] at z; omega)) (fun _ => ?_)
    refine gX7_digest_12 (zp_re (c_count h _) (by rw [v_count (by omega)])) (zp_i (fun u hu => ?_))
    refine gX7_digest_18 (k_join _ _) (zq_l (gX7_digest_22 ?_))
    rw [nI_1]
    exact ih (k + 1) u hu (by omega)
theorem l_dgC2 {d : Nat} {a : zs_A} {Q : Value → zm_S → Prop} (hk : ∀ u, zc_P a u → zm_T zc_H (d + 12) mX7_digest Q 60 [(0, .ref 0), (1, .long (zs_dpl a 12))] [] u) : ∀ (m k : Nat) (w : zm_S), zc_P a w → k + m = 12 → zm_T zc_H (d + 12) mX7_digest Q 41 [(0, .ref 0), (1, .long (zs_dpl a k)), (3, .int (nI k))] [] w := by
  intro m
  induction m with
  | zero =>
    intro k w h hk'
    obtain rfl : k = 12 := by omega
    exact gX7_digest_41 (fun _ => hk w h) (fun q => absurd (by decide) q)
  | succ m ih =>
    intro k w h hk'
    refine gX7_digest_41 (fun q => absurd q (nI_ge (b := 12) (by omega) (by decide))) (fun _ => ?_)
    refine gX7_digest_47 (k_joinPupil h (by omega) _) (zp_l (fun u hu => gX7_digest_53 ?_))
    rw [nI_1]
    exact ih (k + 1) u hu (by omega)
theorem l_dgC3 {d : Nat} {a : zs_A} {Q : Value → zm_S → Prop} (hk : ∀ u, zc_P a u → zm_T zc_H (d + 12) mX7_digest Q 106 [(0, .ref 0), (1, .long (zs_dql a (a.1 0 0)))] [] u) : ∀ (m k : Nat) (w : zm_S), zc_P a w → k + m = a.1 0 0 → zm_T zc_H (d + 12) mX7_digest Q 82 [(0, .ref 0), (1, .long (zs_dql a k)), (3, .int (nI k))] [] w := by
  intro m
  induction m with
  | zero =>
    intro k w h hk'
    obtain rfl : k = a.1 0 0 := by omega
    exact gX7_digest_82 (fun _ => hk w h) (fun q => absurd (by rw [h.1.1.2.1]; exact Int32.le_refl _) q)
  | succ m ih =>
    intro k w h hk'
    have hn := h.1.1.1.1.2.1
    refine gX7_digest_82 (fun q => absurd q (by rw [h.1.1.2.1]; exact nI_ge (by omega) (by omega))) (fun _ => ?_)
    refine gX7_digest_93 (k_joinQuestion h (by omega) _) (zp_l (fun u hu => gX7_digest_99 ?_))
    rw [nI_1]
    exact ih (k + 1) u hu (by omega)
theorem l_dgC4 {d : Nat} {a : zs_A} {Q : Value → zm_S → Prop} (hk : ∀ u, zc_P a u → zm_T zc_H (d + 12) mX7_digest Q 139 [(0, .ref 0), (1, .long (zs_dfl a 4))] [] u) : ∀ (m k : Nat) (w : zm_S), zc_P a w → k + m = 2 → zm_T zc_H (d + 12) mX7_digest Q 108 [(0, .ref 0), (1, .long (zs_dfl a (2 * k))), (3, .int (nI k))] [] w := by
  intro m
  induction m with
  | zero =>
    intro k w h hk'
    obtain rfl : k = 2 := by omega
    exact gX7_digest_108 (fun _ => hk w h) (fun q => absurd (by decide) q)
  | succ m ih =>
    intro k w h hk'
    refine gX7_digest_108 (fun q => absurd q (nI_ge (b := 2) (by omega) (by decide))) (fun _ => ?_)
    refine gX7_digest_113 (zp_re (c_fit h _ _) (by rw [show zs_fit a (nI k) 0 = zs_fitN a k 0 from v_fit (y := 0) (by omega) (by decide)])) (zp_l (fun u hu => ?_))
    refine gX7_digest_120 (k_join _ _) (zq_l ?_)
    refine gX7_digest_123 (zp_re (c_fit hu _ _) (by rw [show zs_fit a (nI k) 1 = zs_fitN a k 1 from v_fit (y := 1) (by omega) (by decide)])) (zp_l (fun v hv => ?_))
    refine gX7_digest_129 (k_join _ _) (zq_l (gX7_digest_132 ?_))
    rw [nI_1]
    have := ih (k + 1) v hv (by omega)
    rw [show 2 * (k + 1) = 2 * k + 1 + 1 by omega, show zs_dfl a (2 * k + 1 + 1) = 31 * (31 * zs_dfl a (2 * k) + zs_fitN a (2 * k / 2) (2 * k % 2)) + zs_fitN a ((2 * k + 1) / 2) ((2 * k + 1) % 2) from rfl, show 2 * k / 2 = k by omega, show 2 * k % 2 = 0 by omega, show (2 * k + 1) / 2 = k by omega, show (2 * k + 1) % 2 = 1 by omega] at this
    exact this
theorem c_digest {d : Nat} {a : zs_A} {w : zm_S} (h : zc_P a w) : zm_C zc_H (d + 18) mX7_digest [.ref 0] w (zp (.long (zs_digest a)) (zc_P a)) := by
  refine zm_C.of mtX7_digest.1.2.2.2.2.2.2 rfl (Nat.le_of_ble_eq_true rfl) ?_
  refine gX7_digest_0 ?_
  refine l_dgC1 (d := d + 14) (fun u1 h1 => ?_) 8 0 w h (by omega)
  refine gX7_digest_29 (c_fault h1) (zp_i (fun u2 h2 => ?_))
  refine gX7_digest_34 (k_join _ _) (zq_l (gX7_digest_38 ?_))
  refine l_dgC2 (d := d + 6) (fun u3 h3 => ?_) 12 0 u2 h2 (by omega)
  refine gX7_digest_60 (zp_re (c_off h3 _) (by rw [show zs_off a 0 = nI (zs_best a none none).1 by rw [zs_off, if_pos (by decide), if_pos rfl]])) (zp_i (fun u4 h4 => ?_))
  refine gX7_digest_66 (k_join _ _) (zq_l ?_)
  refine gX7_digest_70 (zp_re (c_off h4 _) (by rw [show zs_off a 1 = nI (zs_best a none none).2.1 by rw [zs_off, if_pos (by decide), if_neg (by decide)]])) (zp_i (fun u5 h5 => ?_))
  refine gX7_digest_75 (k_join _ _) (zq_l (gX7_digest_79 ?_))
  refine l_dgC3 (d := d + 6) (fun u6 h6 => gX7_digest_106 ?_) (a.1 0 0) 0 u5 h5 (by omega)
  refine l_dgC4 (d := d + 6) (fun u7 h7 => ?_) 2 0 u6 h6 (by omega)
  refine gX7_digest_139 (c_odd h7) (zp_i (fun u8 h8 => ?_))
  refine gX7_digest_144 (k_join _ _) (zq_l ?_)
  refine gX7_digest_148 (zp_re (c_worst h8 _) (by rw [show zs_worst a 0 = (zs_wr2 a 0 (a.1 0 0)).1 from v_worst (x := 0) (by decide)])) (zp_i (fun u9 h9 => ?_))
  refine gX7_digest_153 (k_join _ _) (zq_l ?_)
  refine gX7_digest_157 (zp_re (c_worst h9 _) (by rw [show zs_worst a 1 = (zs_wr2 a 1 (a.1 0 0)).1 from v_worst (x := 1) (by decide)])) (zp_i (fun u10 h10 => ?_))
  refine gX7_digest_162 (k_join _ _) (zq_l ?_)
  refine gX7_digest_166 (zp_re (c_states h10 _) (by rw [show zs_states a (-1) = zs_stl a (-1) (2 ^ a.1 0 0) 0 by rw [zs_states, if_neg (by decide)]])) (zp_i (fun u11 h11 => ?_))
  refine gX7_digest_173 (k_join _ _) (zq_l ?_)
  refine gX7_digest_177 (c_paths h11) (zp_i (fun u12 h12 => ?_))
  refine gX7_digest_181 (k_join _ _) (zq_l ?_)
  refine gX7_digest_185 (zp_re (c_sure h12 _ _ _) (by rw [show zs_sure a 0 0 0 = zs_sureN a 0 0 0 from v_sure (x := 0) (by decide)])) (zp_i (fun u13 h13 => ?_))
  refine gX7_digest_194 (k_join _ _) (zq_l ?_)
  refine gX7_digest_198 (zp_re (c_sure h13 _ _ _) (by rw [show zs_sure a 0 0 1 = zs_sureN a 0 0 1 from v_sure (x := 1) (by decide)])) (zp_i (fun u14 h14 => ?_))
  refine gX7_digest_205 (k_join _ _) (zq_l ?_)
  refine gX7_digest_209 (zp_re (c_lessons h14 _ _) (by rw [show zs_lessons a 2 (-1) = zs_les a 2 (-1) by rw [zs_lessons, if_pos (by decide)]; rfl])) (zp_i (fun u15 h15 => ?_))
  exact gX7_digest_217 (k_join _ _) (zq_l (gX7_digest_221 ⟨rfl, h15⟩))
