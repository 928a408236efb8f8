/-! ===== a sheet's place ===== -/
theorem zc_at {s : Nat} (h : s < 4) : ([40, 42, 44, 46] : List Nat)[(nI s).toNatClampNeg]? = some (40 + 2 * s) := by
  rw [zx_clamp (by omega)]
  match s, h with
  | 0, _ => rfl
  | 1, _ => rfl
  | 2, _ => rfl
  | 3, _ => rfl
theorem zc_shs {s : Nat} (h : s < 4) : zc_sh (40 + 2 * s) := zc_sh_of (zc_at h)
theorem zc_41 (s : Nat) : 40 + 2 * s + 1 = 41 + 2 * s := by omega
/-! ===== answers read off a sheet ===== -/
theorem zs_tell_lt (a : zs_A) (p q x tm : Nat) : zs_lt (zs_tell a p q x tm) = tm := by
  unfold zs_lt
  rw [zs_tell_t, if_neg (by omega), Nat.add_sub_cancel]
  simp [zs_tell, zs_u]
theorem zs_tell_k (a : zs_A) (p q x tm c : Nat) (hc : 6 ≤ c) : (zs_tell a p q x tm).1 c = a.1 c := by
  funext i
  show zs_u _ _ _ _ _ _ = _
  rw [zs_u_c (by omega), zs_u_c (by omega), zs_u_c (by omega), zs_u_c (by omega), zs_u_c (by omega)]
theorem l_readC {d : Nat} {s p tm : Nat} (hs : s < 4) (hp : p < 12) (ht2 : tm ≤ 999) {R : Int32 × zs_A} : ∀ (m k : Nat) (a : zs_A) (w : zm_S), zc_P a w → k + m = min 7 (a.1 9 s) → a.1 8 s ≠ 0 → zs_lt a ≤ tm → zs_rdl s (nI p) (nI tm) (61 - k) k a = R → zm_T zc_H (d + 4) mX7_read (zp (.int R.1) (zc_P R.2)) 68 [(0, .ref 0), (2, .int (nI p)), (3, .int (nI tm)), (4, .ref (40 + 2 * s)), (5, .int (nI (min 7 (a.1 9 s)))), (6, .int (nI k))] [] w := by
  have hS := zc_shs hs
  intro m
  induction m with
  | zero =>
    intro k a w h hk h8 ht1 hR
    obtain rfl : k = min 7 (a.1 9 s) := by omega
    have hsz := (h.1.1.1.2.2.2.1 s hs).2
    refine gX7_read_68 hS (fun _ => gX7_read_123 ?_) (fun q => absurd (Int32.le_refl _) q)
    obtain ⟨f, hf⟩ : ∃ f, 61 - min 7 (a.1 9 s) = f + 1 := ⟨60 - min 7 (a.1 9 s), by omega⟩
    rw [hf, zs_rdl] at hR
    by_cases c : min 7 (a.1 9 s) < a.1 9 s
    · have e7 : min 7 (a.1 9 s) = 7 := by omega
      rw [e7] at hR ⊢
      rw [if_pos (by omega), show zs_answer a (nI p) (nI 7) (a.2 s 7) (nI tm) = (-2, a) by rw [zs_answer, if_neg (fun q => absurd q.2.1.2 (by decide))], if_pos (show (-2 : Int32) < 0 by decide)] at hR
      rw [← hR]
      exact ⟨rfl, h⟩
    · rw [if_neg c] at hR
      rw [← hR]
      exact ⟨rfl, h⟩
  | succ m ih =>
    intro k a w h hk h8 ht1 hR
    have ha := h.1.1.1
    have hsz := (ha.2.2.2.1 s hs).2
    obtain ⟨s1, s3, s4⟩ := h.1.2.2.2.2.2.2 s hs
    have hit := (s4 h8).2 k (by omega)
    obtain ⟨f, hf⟩ : ∃ f, 61 - k = f + 1 := ⟨60 - k, by omega⟩
    rw [hf, zs_rdl, if_pos (by omega)] at hR
    refine gX7_read_68 hS (fun z => absurd z (nI_ge (by omega) (by omega))) (fun _ => ?_)
    refine gX7_read_75 hS (vp_in_nI (by omega) (by decide)) (k_within _ _) (zq_i ?_)
    rw [zx_clamp (by omega), zc_41, hit]
    have stop : (zs_answer a (nI p) (nI k) (a.2 s k) (nI tm)).1 < 0 → zm_T zc_H (d + 4) mX7_read (zp (.int R.1) (zc_P R.2)) 104 [(6, .int (nI k))] [] w := fun q => gX7_read_104 (by
      rw [if_pos q] at hR
      rw [← hR]
      exact ⟨rfl, h⟩)
    refine gX7_read_91 hS (fun g => stop ?_) (fun g => ?_)
    · rw [zs_answer, if_neg (fun q => zi_0.mp g q.2.2.1)]
      exact (show (-2 : Int32) < 0 by decide)
    have hv := zi_n0.mp g
    obtain ⟨x, hx, ex⟩ := zx_of (n := 3) hv (by decide)
    have hG : (0 ≤ nI p ∧ nI p < 12) ∧ (0 ≤ nI k ∧ nI k < 7) ∧ (0 ≤ a.2 s k ∧ a.2 s k < 3) ∧ nI (zs_lt a) ≤ nI tm ∧ nI tm ≤ 999 := ⟨⟨nI_pos' (by omega), nI_lt (b := 12) hp (by decide)⟩, ⟨nI_pos' (by omega), nI_lt (b := 7) (by omega) (by decide)⟩, hv, nI_le ht1 (by omega), nI_le (b := 999) ht2 (by decide)⟩
    refine gX7_read_94 hS (k_isFull ha h.1.2.1) (zq_i ?_)
    refine gX7_read_101 hS (fun g2 => ?_) (fun g2 => stop ?_)
    rotate_left
    · rw [zs_answer, if_pos hG, if_pos (zi_n0.mp g2)]
      exact (show (-4 : Int32) < 0 by decide)
    have hfu := zi_0.mp g2
    have hA : zs_answer a (nI p) (nI k) (a.2 s k) (nI tm) = (nI (a.1 1 0 + 1), zs_tell a p k x tm) := by
      rw [zs_answer, if_pos hG, if_neg hfu, ex, zx_clamp (by omega), zx_clamp (by omega), zx_clamp (by omega), zx_clamp (by omega)]
    have ht := ha.2.1.1
    rw [hA, if_neg (nI_pos (by omega))] at hR
    rw [ex]
    refine gX7_read_107 hS (k_tellOne h hp (by omega) hx ht1 ht2 hfu) (zp_v (fun u hu => gX7_read_117 hS ?_))
    rw [nI_1]
    have e9 := zs_tell_k a p k x tm 9 (by decide)
    have e8 := zs_tell_k a p k x tm 8 (by decide)
    have := ih (k + 1) (zs_tell a p k x tm) u hu (by rw [e9]; omega) (by rw [e8]; exact h8) (by rw [zs_tell_lt]; exact Nat.le_refl _) (by rw [show 61 - (k + 1) = f by omega]; exact hR)
    rw [e9] at this
    exact this
theorem zx_min {k n : Nat} (hk : k < 2 ^ 31) (hn : n < 2 ^ 31) : (if nI n < nI k then nI n else nI k) = nI (min k n) := by
  by_cases c : n < k
  · rw [if_pos ((nI_ltI hn hk).mpr c), Nat.min_eq_right (by omega)]
  · rw [if_neg (fun q => c ((nI_ltI hn hk).mp q)), Nat.min_eq_left (by omega)]
theorem c_read {d : Nat} {a : zs_A} {w : zm_S} (h : zc_P a w) (s p tm : Int32) : zm_C zc_H (d + 4) mX7_read [.ref 0, .int s, .int p, .int tm] w (zp (.int (zs_read a s p tm).1) (zc_P (zs_read a s p tm).2)) := by
  have ha := h.1.1.1
  refine zm_C.of mtX7_read.1.2.2.2.2.2.2 rfl (Nat.le_of_ble_eq_true rfl) ?_
  have bad : ¬ ((0 ≤ s ∧ s < 4) ∧ (0 ≤ p ∧ p < 12) ∧ nI (zs_lt a) ≤ tm ∧ tm ≤ 999) → zm_T zc_H (d + 4) mX7_read (zp (.int (zs_read a s p tm).1) (zc_P (zs_read a s p tm).2)) 28 [] [] w := fun hb => gX7_read_28 (by rw [zs_read, if_neg hb]; exact ⟨rfl, h⟩)
  refine gX7_read_0 (k_within _ _) (zq_i ?_)
  refine gX7_read_5 (fun g => bad (fun c => zi_0.mp g c.1)) (fun g1 => ?_)
  refine gX7_read_8 (k_within _ _) (zq_i ?_)
  refine gX7_read_14 (fun g => bad (fun c => zi_0.mp g c.2.1)) (fun g2 => ?_)
  refine gX7_read_17 (k_timeFits ha h.1.2.1 tm) (zq_i ?_)
  refine gX7_read_25 (fun g3 => ?_) (fun g => bad (fun c => zi_0.mp g c.2.2))
  have hG : (0 ≤ s ∧ s < 4) ∧ (0 ≤ p ∧ p < 12) ∧ nI (zs_lt a) ≤ tm ∧ tm ≤ 999 := ⟨zi_n0.mp g1, zi_n0.mp g2, zi_n0.mp g3⟩
  rw [zs_read, if_pos hG]
  obtain ⟨s, hs, rfl⟩ := zx_of (n := 4) hG.1 (by decide)
  obtain ⟨p, hp, rfl⟩ := zx_of (n := 12) hG.2.1 (by decide)
  obtain ⟨tm, ht1, ht2, rfl⟩ := zx_time (zs_lt_le ha) hG.2.2
  obtain ⟨s1, s3, s4⟩ := h.1.2.2.2.2.2.2 s hs
  have hsz := (ha.2.2.2.1 s hs).2
  rw [zx_clamp (by omega)]
  refine gX7_read_31 (vp_in_nI hs (by decide)) (zc_at hs) (fun g => ?_) (fun g => gX7_read_47 (k_tellFinding _) (zq_i (gX7_read_52 ?_)))
  · rw [s1] at g
    have h8 := zi_0.mp g
    rw [if_neg h8]
    refine gX7_read_53 (zc_shs hs) ?_
    rw [s3, show (7 : Int32) = nI 7 from rfl, zx_min (k := 7) (n := a.1 9 s) (by decide) (by omega)]
    exact l_readC hs hp ht2 (min 7 (a.1 9 s)) 0 a w h (by omega) h8 ht1 rfl
  · rw [s1] at g
    rw [if_pos (zi_n0.mp g)]
    exact h.metp rfl (by decide)
/-! ===== the text ===== -/
theorem zs_type_ok {a : zs_A} (h : zs_ok a) {b : Nat} (hb : b < 256) (hl : a.1 6 0 ≠ 60) : zs_ok (zs_u (zs_u a.1 7 (a.1 6 0) b) 6 0 (a.1 6 0 + 1), a.2) := by
  have hl2 := h.2.2.1
  refine ⟨h.1, h.2.1, ⟨?_, fun k hk => ?_⟩, h.2.2.2⟩
  · simp [zs_u]; omega
  · have hk : k < a.1 6 0 + 1 := by simpa [zs_u] using hk
    by_cases e : k = a.1 6 0
    · simp [zs_u, e]; omega
    · simp [zs_u, e]; exact hl2.2 k (by omega)
theorem zs_wipe_ok {a : zs_A} (h : zs_ok a) : zs_ok (zs_u a.1 6 0 0, a.2) := by
  refine ⟨h.1, h.2.1, ⟨?_, fun k hk => ?_⟩, h.2.2.2⟩
  · simp [zs_u]
  · simp [zs_u] at hk
/-- the text is another one: the rest stands -/
theorem zc_P.text {a b : zs_A} {w u : zm_S} (h : zc_P a w) (hb : zs_ok b) (e : ∀ c, c ≠ 6 → c ≠ 7 → a.1 c = b.1 c) (e2 : a.2 = b.2) (hT : zc_T b u) (ek : ∀ k, k ≠ 11 → k ≠ 12 → k ≠ 13 → k ≠ 14 → u.1 k = w.1 k) (el : u.2 = w.2) : zc_P b (zm_pi u 23 4 0) := by
  obtain ⟨⟨⟨-, a9, a10, aF⟩, h2, h11, h1, h08, -, h4⟩, hR, -⟩ := h
  have e0 := e 0 (by decide) (by decide)
  have hS : zs_S a = zs_S b := zs_S_cong (by rw [e0]) (by rw [e 1 (by decide) (by decide)]) (e 2 (by decide) (by decide)) (e 3 (by decide) (by decide)) (e 4 (by decide) (by decide)) (e 5 (by decide) (by decide))
  have kk : ∀ k, k ≠ 23 → k ≠ 11 → k ≠ 12 → k ≠ 13 → k ≠ 14 → (zm_pi u 23 4 0).1 k = w.1 k := fun k a b c d e => by rw [zm_pa_ne a, ek k b c d e]
  refine ⟨⟨⟨hb, ?_, ?_, ?_⟩, (h2.cong (by rw [e 1 (by decide) (by decide)]) (e 2 (by decide) (by decide)) (e 3 (by decide) (by decide)) (e 4 (by decide) (by decide)) (e 5 (by decide) (by decide))).keep (fun k x y => kk k (by omega) (by omega) (by omega) (by omega) (by omega)), ?_, fun i hi => ?_, ?_, hT.keep (fun k x y => zm_pa_ne (by omega)), (h4.cong (e 8 (by decide) (by decide)) (e 9 (by decide) (by decide)) e2).keep (fun k x => kk k (by omega) (by omega) (by omega) (by omega) (by omega))⟩, (hR.cong hS (by rw [e0])).keep (fun k x y => kk k (by omega) (by omega) (by omega) (by omega) (by omega)) el, Or.inl ?_⟩
  · rw [kk 2 (by decide) (by decide) (by decide) (by decide) (by decide), ← e0]; exact a9
  · rw [kk 2 (by decide) (by decide) (by decide) (by decide) (by decide), ← e0]; exact a10
  · rw [← hS]
    exact ⟨fun p hp => by rw [kk 7 (by decide) (by decide) (by decide) (by decide) (by decide), kk 8 (by decide) (by decide) (by decide) (by decide) (by decide)]; exact aF.1 p hp, fun q hq => by rw [kk 9 (by decide) (by decide) (by decide) (by decide) (by decide), kk 10 (by decide) (by decide) (by decide) (by decide) (by decide)]; exact aF.2 q hq⟩
  · rw [kk 2 (by decide) (by decide) (by decide) (by decide) (by decide), ← e0]; exact h11
  · rw [kk 1 (by decide) (by decide) (by decide) (by decide) (by decide), ← e0]; exact h1 i hi
  · rw [kk 0 (by decide) (by decide) (by decide) (by decide) (by decide), ← e 10 (by decide) (by decide)]; exact h08
  · rw [zm_pa_at, pk_us]
theorem c_type {d : Nat} {a : zs_A} {w : zm_S} (h : zc_P a w) (b : Int32) : zm_C zc_H (d + 5) mX7_type [.ref 0, .int b] w (zp (.int (zs_type a b).1) (zc_P (zs_type a b).2)) := by
  have ha := h.1.1.1
  have hl := ha.2.2.1
  have hX := h.1.2.2.2.2.2.1.1
  refine zm_C.of mtX7_type.1.2.2.2.2.2.2 rfl (Nat.le_of_ble_eq_true rfl) ?_
  refine gX7_type_0 (k_within _ _) (zq_i ?_)
  refine gX7_type_7 (fun g => ?_) (fun g => gX7_type_10 (by rw [zs_type, if_neg (zi_0.mp g)]; exact ⟨rfl, h⟩))
  have hG := zi_n0.mp g
  rw [zs_type, if_pos hG]
  refine gX7_type_13 (fun g2 => ?_) (fun g2 => gX7_type_25 ?_)
  rotate_left
  · rw [hX.1, show (60 : Int32) = nI 60 from rfl, nI_ltI (by omega) (by omega)] at g2
    rw [if_pos (by omega)]
    exact ⟨rfl, h⟩
  rw [hX.1, show (60 : Int32) = nI 60 from rfl, nI_ltI (by omega) (by omega)] at g2
  rw [if_neg (by omega)]
  obtain ⟨b, hb, rfl⟩ := zx_of (n := 256) hG (by decide)
  rw [zx_clamp (by omega)]
  have hok := zs_type_ok ha hb (by omega)
  have hC : zm_C zc_H (d + 4) mX2_append [.ref 11, .int (nI b)] w (zp .null (fun u => zc_T (zs_u (zs_u a.1 7 (a.1 6 0) b) 6 0 (a.1 6 0 + 1), a.2) u ∧ (∀ k, k ≠ 11 → k ≠ 12 → k ≠ 13 → k ≠ 14 → u.1 k = w.1 k) ∧ u.2 = w.2)) := by
    refine zm_C.of mtX2_append.1.2.2.2.2.2.2 rfl (Nat.le_of_ble_eq_true rfl) ?_
    refine gX2_append_0 (fun g3 => absurd g3 (by rw [hX.1]; exact nI_ge (b := 60) g2 (by decide))) (fun _ => ?_)
    refine gX2_append_9 (by rw [hX.1]; exact vp_in_nI g2 (by decide)) (k_readParts hok ⟨?_, fun k hk => ?_⟩) (zp_v (fun u hu => gX2_append_33 ⟨rfl, hu.1, fun k x y z t => ?_, ?_⟩))
    · rw [zm_pa_at, pk_us, hX.1, nI_1]
      simp [zs_u]
    · have hk : k < a.1 6 0 + 1 := by simpa [zs_u] using hk
      rw [zm_pa_ne (by decide), zm_pa_at, hX.1, zx_clamp (by omega)]
      by_cases e : k = a.1 6 0
      · rw [e, pk_us]
        simp [zs_u]
      · rw [pk_un e, hX.2 k (by omega)]
        simp [zs_u, e]
    · rw [hu.2.1 k x z t, zm_pa_ne x, zm_pa_ne y]
    · rw [hu.2.2]; rfl
  refine gX7_type_28 hC (zp_v (fun u hu => gX7_type_36 ?_))
  obtain ⟨uT, uk, ul⟩ := hu
  refine ⟨?_, h.text hok (fun c h6 h7 => ?_) rfl uT uk ul⟩
  · rw [uT.1.1]
    simp [zs_u]
  · funext i
    show _ = zs_u _ _ _ _ _ _
    rw [zs_u_c h6, zs_u_c h7]
theorem c_wipe {d : Nat} {a : zs_A} {w : zm_S} (h : zc_P a w) : zm_C zc_H (d + 5) mX7_wipe [.ref 0] w (zp (.int (zs_wipe a).1) (zc_P (zs_wipe a).2)) := by
  have ha := h.1.1.1
  have hX := h.1.2.2.2.2.2.1.1
  have hok := zs_wipe_ok ha
  refine zm_C.of mtX7_wipe.1.2.2.2.2.2.2 rfl (Nat.le_of_ble_eq_true rfl) ?_
  have hC : zm_C zc_H (d + 4) mX2_clear [.ref 11] w (zp .null (fun u => zc_T (zs_u a.1 6 0 0, a.2) u ∧ (∀ k, k ≠ 11 → k ≠ 12 → k ≠ 13 → k ≠ 14 → u.1 k = w.1 k) ∧ u.2 = w.2)) := by
    refine zm_C.of mtX2_clear.1.2.2.2.2.2.2 rfl (Nat.le_of_ble_eq_true rfl) ?_
    refine gX2_clear_0 (k_readParts hok ⟨?_, fun k hk => ?_⟩) (zp_v (fun u hu => gX2_clear_9 ⟨rfl, hu.1, fun k x y z t => ?_, ?_⟩))
    · rw [zm_pa_at, pk_us]
      simp [zs_u]
      rfl
    · simp [zs_u] at hk
    · rw [hu.2.1 k x z t, zm_pa_ne x]
    · rw [hu.2.2]; rfl
  refine gX7_wipe_0 hC (zp_v (fun u hu => gX7_wipe_15 ?_))
  obtain ⟨uT, uk, ul⟩ := hu
  refine ⟨by rw [hX.1]; rfl, h.text hok (fun c h6 h7 => ?_) rfl uT uk ul⟩
  funext i
  show _ = zs_u _ _ _ _ _ _
  rw [zs_u_c h6]
theorem zs_cn_need {a : zs_A} (h : zs_ok a) {x y w : Nat} (hx : x < a.1 0 0) (hy : y < a.1 0 0) (hxy : x ≠ y) (hw : w < 2) : (zs_cn a w y).testBit x = zs_need a w x y := by
  unfold zs_cn
  by_cases c : w = 1
  · subst c
    rw [if_pos rfl, zb_bit, decide_eq_true hx, Bool.true_and]
  · have e : w = 0 := by omega
    subst e
    rw [if_neg (by decide), Nat.testBit_and, Nat.testBit_two_pow_sub_one, decide_eq_true hx, Bool.and_true]
    unfold zs_need
    rw [decide_eq_true hxy, Bool.true_and, if_pos rfl]
theorem c_needed {d : Nat} {a : zs_A} {w : zm_S} (h : zc_P a w) (x y z : Int32) : zm_C zc_H (d + 4) mX7_needed [.ref 0, .int x, .int y, .int z] w (zp (.int (zs_needed a x y z)) (zc_P a)) := by
  have ha := h.1.1.1
  have hn := ha.1.2.1
  refine zm_C.of mtX7_needed.1.2.2.2.2.2.2 rfl (Nat.le_of_ble_eq_true rfl) ?_
  have bad : ¬ ((0 ≤ x ∧ x < nI (a.1 0 0)) ∧ (0 ≤ y ∧ y < nI (a.1 0 0)) ∧ x ≠ y ∧ 0 ≤ z ∧ z < 2) → zm_T zc_H (d + 4) mX7_needed (zp (.int (zs_needed a x y z)) (zc_P a)) 29 [] [] w := fun hb => gX7_needed_29 (by rw [zs_needed, if_neg hb]; exact ⟨rfl, h⟩)
  refine gX7_needed_0 (k_isQuestionC h.1.1 x) (zq_i ?_)
  refine gX7_needed_5 (fun g => bad (fun c => zi_0.mp g c.1)) (fun g1 => ?_)
  refine gX7_needed_8 (k_isQuestionC h.1.1 y) (zq_i ?_)
  refine gX7_needed_13 (fun g => bad (fun c => zi_0.mp g c.2.1)) (fun g2 => ?_)
  refine gX7_needed_16 (fun g => bad (fun c => c.2.2.1 g)) (fun g3 => ?_)
  refine gX7_needed_21 (k_within _ _) (zq_i ?_)
  refine gX7_needed_26 (fun g4 => ?_) (fun g => bad (fun c => zi_0.mp g c.2.2.2))
  have hG : (0 ≤ x ∧ x < nI (a.1 0 0)) ∧ (0 ≤ y ∧ y < nI (a.1 0 0)) ∧ x ≠ y ∧ 0 ≤ z ∧ z < 2 := ⟨zi_n0.mp g1, zi_n0.mp g2, g3, zi_n0.mp g4⟩
  rw [zs_needed, if_pos hG]
  obtain ⟨x, hx, rfl⟩ := zx_of hG.1 (by omega)
  obtain ⟨y, hy, rfl⟩ := zx_of hG.2.1 (by omega)
  obtain ⟨z, hz, rfl⟩ := zx_of (n := 2) hG.2.2.2 (by decide)
  rw [zx_clamp (by omega), zx_clamp (by omega), zx_clamp (by omega)]
  refine gX7_needed_32 (k_needsOf h.1 hy hz) (zq_i ?_)
  have hc := zs_cn_lt ha z (q := y) (by omega)
  have e := zs_cn_need ha hx hy (fun q => g3 (by rw [q])) hz
  refine gX7_needed_38 ?_ ?_
  all_goals
    rw [zy_tb (by omega) (by omega), e]
    intro g
  · refine gX7_needed_49 ?_
    rw [zi_f (by rw [g]; decide)]
    exact ⟨rfl, h⟩
  · refine gX7_needed_45 ?_
    rw [zi_t (by simpa using g)]
    exact ⟨rfl, h⟩
theorem c_count {d : Nat} {a : zs_A} {w : zm_S} (h : zc_P a w) (x : Int32) : zm_C zc_H (d + 3) mX7_count [.ref 0, .int x] w (zp (.int (zs_count a x)) (zc_P a)) := by
  obtain ⟨hA, h2, h11, h1, h08, hT, h4⟩ := h.1
  refine zm_C.of mtX7_count.1.2.2.2.2.2.2 rfl (Nat.le_of_ble_eq_true rfl) ?_
  have go : ∀ k : Nat, k < 9 → x = nI k → zs_count a x = zs_countN a k := fun k hk e => by
    rw [e, zs_count, if_pos ⟨nI_pos' (by omega), nI_lt (b := 9) hk (by decide)⟩, zx_clamp (by omega)]
  refine gX7_count_0 (fun g => ?_) (fun g => ?_) (fun g => ?_) (fun g => ?_) (fun g => ?_) (fun g => ?_) (fun g => ?_) (fun g => ?_) (fun g => ?_) (fun g => ?_)
  · rw [go 0 (by decide) g]
    exact gX7_count_52 ⟨by rw [hA.2.1]; rfl, h⟩
  · rw [go 1 (by decide) g]
    exact gX7_count_60 ⟨by rw [h2.1]; rfl, h⟩
  · rw [go 2 (by decide) g]
    exact gX7_count_68 (k_givenByAll hA) (zq_i (gX7_count_75 ⟨rfl, h⟩))
  · rw [go 3 (by decide) g]
    exact gX7_count_76 (k_yesByAll hA) (zq_i (gX7_count_83 ⟨rfl, h⟩))
  · rw [go 4 (by decide) g]
    exact gX7_count_84 (k_pupilsWithSome hA) (zq_i (gX7_count_91 ⟨rfl, h⟩))
  · rw [go 5 (by decide) g]
    exact gX7_count_92 ⟨by rw [hT.1.1]; rfl, h⟩
  · rw [go 6 (by decide) g]
    exact gX7_count_100 ⟨by rw [hT.2.1]; rfl, h⟩
  · rw [go 7 (by decide) g]
    exact gX7_count_108 zx_in2 ⟨by rw [show (2 : Int32).toNatClampNeg = 2 from rfl, h1 2 (by decide)]; rfl, h⟩
  · rw [go 8 (by decide) g]
    exact gX7_count_115 ⟨by rw [h08]; rfl, h⟩
  · refine gX7_count_120 ?_
    rw [zs_count, if_neg (fun q => ?_)]
    · exact ⟨rfl, h⟩
    · have q1 := (fa_le 0 x).mp q.1
      have q2 := (fa_lt x 9).mp q.2
      have e0 : (0 : Int32).toInt = 0 := rfl
      have e9 : (9 : Int32).toInt = 9 := rfl
      omega
