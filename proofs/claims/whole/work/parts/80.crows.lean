/-! ===== the tables, filled ===== -/
def zw_W (Y N : Nat → Nat) (G : Nat) (p s : Nat) : Nat := zpc ((Y p &&& G) &&& (127 ^^^ s)) + zpc ((N p &&& G) &&& s)
def zw_y (n : Nat) (Y N : Nat → Nat) (w : zm_S) : Prop := ∀ q, q < n → w.2 16 q = lN (zk (zw_b Y q) 12) ∧ w.2 17 q = lN (zk (zw_b N q) 12)
def zw_e (Y : Nat → Nat) (G k p : Nat) : Nat := fb_ct (fun i => (Y p &&& G).testBit i) k
def zw_I (w u : zm_S) : Prop := u.1 = w.1 ∧ ∀ k, k ≠ 18 → k ≠ 19 → u.2 k = w.2 k
theorem z0c : (0 : Int32).toNatClampNeg = 0 := by decide
theorem zk_z : zk (fun _ => 0) 12 = 0 := by decide
theorem zo_dis0 : ∀ k, k < 128 → ∀ G, G < 128 → (k &&& (127 ^^^ G) = 0 ↔ k &&& G = k) := by decide +kernel
theorem zw_e_n {Y : Nat → Nat} {n G p : Nat} (hn : n ≤ 7) (hG : G < 2 ^ n) : zw_e Y G n p = zpc (Y p &&& G) := by
  unfold zw_e zpc
  obtain ⟨k, hk⟩ : ∃ k, n + k = 14 := ⟨14 - n, by omega⟩
  rw [← hk, fb_ct_split]
  have : fb_ct (fun k => (Y p &&& G).testBit (n + k)) k = 0 := fb_ct_zero.mpr (fun i _ => by
    rw [Nat.testBit_and, Nat.testBit_lt_two_pow (Nat.lt_of_lt_of_le hG (Nat.pow_le_pow_right (by decide) (Nat.le_add_right n i))), Bool.and_false])
  rw [this]
  rfl
theorem l_fillA {d n G : Nat} {Y N : Nat → Nat} (hn : n ≤ 7) (hG : G < 128) {w : zm_S} (h9 : w.1 15 9 = nI n) (h11 : w.1 15 11 = nI G) (hy : zw_y n Y N w) {Q : Value → zm_S → Prop} (hQ : ∀ u, zw_I w u → u.2 18 0 = lN (zk (zw_e Y G n) 12) → u.2 19 0 = 0 → zm_T zc_H d mX4_fillTables Q 60 [(0, .ref 15)] [] u) : ∀ (m k : Nat) (u : zm_S), k + m = n → zw_I w u → u.2 18 0 = lN (zk (zw_e Y G k) 12) → u.2 19 0 = 0 → zm_T zc_H d mX4_fillTables Q 16 [(0, .ref 15), (1, .int (nI k))] [] u := by
  intro m
  induction m with
  | zero =>
    intro k u hk hI h0 h19
    obtain rfl : k = n := by omega
    exact gX4_fillTables_16 (fun _ => hQ u hI h0 h19) (fun q => absurd (by rw [hI.1, h9]; exact Int32.le_refl _) q)
  | succ m ih =>
    intro k u hk hI h0 h19
    have fin : ∀ x : Int64, x = lN (zk (fun p => if (Y p &&& G).testBit k = true then 1 else 0) 12) → zm_T zc_H d mX4_fillTables Q 52 [(0, .ref 15), (1, .int (nI k))] [.long x, .long (u.2 18 (0 : Int32).toNatClampNeg), .int 0, .ref 18] u := by
      intro x ex
      refine gX4_fillTables_52 (vp_in_nI (n := 0) (by decide) (by decide)) ?_
      rw [nI_1, z0c, h0, ex, lN_add, zk_add]
      refine ih (k + 1) _ (by omega) ⟨hI.1, fun j a b => by rw [zm_qa_ne a]; exact hI.2 j a b⟩ ?_ (by rw [zm_qa_ne (by decide)]; exact h19)
      rw [zm_qa_at, pk_lus]
      exact congrArg lN (zk_cong (fun p _ => (fb_ct_succ _ _).symm))
    refine gX4_fillTables_16 (fun q => absurd q (by rw [hI.1, h9]; exact nI_ge (by omega) (by omega))) (fun _ => ?_)
    refine gX4_fillTables_24 (vp_in_nI (n := 0) (by decide) (by decide)) (fun g => gX4_fillTables_51 (fin _ ?_)) (fun g => gX4_fillTables_42 (vp_in_nI (by omega) (by decide)) ?_)
    · rw [hI.1, h11, zy_tb (by omega) (by omega)] at g
      rw [show zk (fun p => if (Y p &&& G).testBit k = true then 1 else 0) 12 = zk (fun _ => 0) 12 from zk_cong (fun p _ => by rw [Nat.testBit_and, g, Bool.and_false]; rfl), zk_z]
      rfl
    · rw [hI.1, h11, zy_tb (by omega) (by omega)] at g
      have g1 : G.testBit k = true := by simpa using g
      rw [zx_clamp (by omega), hI.2 16 (by decide) (by decide), (hy k (by omega)).1]
      exact fin _ (congrArg lN (zk_cong (fun p _ => by rw [Nat.testBit_and, g1, Bool.and_true]; rfl)))
theorem l_fillB {d n G : Nat} {Y N : Nat → Nat} (hn : n ≤ 7) (hG : G < 2 ^ n) (hY : ∀ p, Y p < 128) (hN : ∀ p, N p < 128) {w : zm_S} (h11 : w.1 15 11 = nI G) (hy : zw_y n Y N w) : ∀ (m k : Nat) (u : zm_S), k + m = G + 1 → k ≠ 0 → zw_I w u → (∀ s, s < k → s &&& G = s → u.2 18 s = lN (zk (fun p => zw_W Y N G p s) 12) ∧ u.2 19 s = lN (zk (fun p => zpc ((N p &&& G) &&& s)) 12)) → zm_T zc_H (d + 1) mX4_fillTables (zp .null (fun u => zw_I w u ∧ ∀ s, s &&& G = s → u.2 18 s = lN (zk (fun p => zw_W Y N G p s) 12) ∧ u.2 19 s = lN (zk (fun p => zpc ((N p &&& G) &&& s)) 12))) 62 [(0, .ref 15), (1, .int (nI k))] [] u := by
  have hG7 : G < 128 := Nat.lt_of_lt_of_le hG (Nat.pow_le_pow_right (n := 2) (j := 7) (by decide) hn)
  intro m
  induction m with
  | zero =>
    intro k u hk hk0 hI hs
    obtain rfl : k = G + 1 := by omega
    refine gX4_fillTables_62 (fun _ => gX4_fillTables_143 ⟨rfl, hI, fun s h => hs s (by have := @Nat.and_le_right s G; omega) h⟩) (fun q => absurd ?_ q)
    rw [hI.1, h11, nI_ltI (by omega) (by omega)]
    omega
  | succ m ih =>
    intro k u hk hk0 hI hs
    refine gX4_fillTables_62 (fun q => absurd q ?_) (fun _ => ?_)
    · rw [hI.1, h11, nI_ltI (by omega) (by omega)]
      omega
    have ec : nI k &&& (u.1 15 11 ^^^ -1) = nI (k &&& (127 ^^^ G)) := by rw [hI.1, h11, zy_not (by omega) hG7]
    have hcl : k &&& (127 ^^^ G) < 128 := zy_and_lt (by omega)
    refine gX4_fillTables_70 (fun g => gX4_fillTables_137 ?_) (fun g => ?_)
    · rw [ec] at g
      rw [nI_1]
      refine ih (k + 1) u (by omega) (by omega) hI (fun s h1 h2 => hs s ?_ h2)
      by_cases z : s = k
      · subst z
        exact absurd (by rw [(zo_dis0 s (by omega) G hG7).mpr h2]; rfl) g
      · omega
    · rw [ec] at g
      have g0 : k &&& (127 ^^^ G) = 0 := (nI_eq (b := 0) (by omega) (by decide)).mp g
      have hkG := (zo_dis0 k (by omega) G hG7).mp g0
      obtain ⟨t1, t2, t3, t4⟩ := zt_low k (by omega) hk0
      obtain ⟨t5, t6⟩ := zt_sub k (by omega) hk0
      have rG : k &&& (k - 1) &&& G = k &&& (k - 1) := by rw [Nat.and_assoc, Nat.and_comm (k - 1) G, ← Nat.and_assoc, hkG]
      have gt : G.testBit (zt k) = true := by
        have := t1
        rw [← hkG, Nat.testBit_and, Bool.and_eq_true] at this
        rw [hkG] at this
        exact this.2
      have tn : zt k < n := by
        rcases Nat.lt_or_ge (zt k) n with q | q
        · exact q
        · rw [Nat.testBit_lt_two_pow (Nat.lt_of_lt_of_le hG (Nat.pow_le_pow_right (by decide) q))] at gt
          cases gt
      obtain ⟨r1, r2⟩ := hs (k &&& (k - 1)) t3 rG
      obtain ⟨y1, y2⟩ := hy (zt k) tn
      refine gX4_fillTables_81 (k_ntz (by omega) hk0) (zq_i ?_)
      have er : nI k &&& (nI k - 1) = nI (k &&& (k - 1)) := by
        obtain ⟨j, rfl⟩ := Nat.exists_eq_succ_of_ne_zero hk0
        rw [show j.succ = j + 1 from rfl, nI_pred, fa_and]
        rfl
      have i1 : vp_in (nI k) 128 := vp_in_nI (by omega) (by decide)
      have i2 : vp_in (nI (zt k)) 7 := vp_in_nI t4 (by decide)
      have i3 : vp_in (nI k &&& (nI k - 1)) 128 := by rw [er]; exact vp_in_nI (by omega) (by decide)
      refine gX4_fillTables_85 i3 i2 i2 i1 i3 i2 i1 (gX4_fillTables_137 ?_)
      rw [nI_1, er, zx_clamp (n := k) (by omega), zx_clamp (n := zt k) (by omega), zx_clamp (n := k &&& (k - 1)) (by omega)]
      have e2 : ∀ p, (Y p &&& G).testBit (zt k) = (Y p).testBit (zt k) := fun p => by rw [Nat.testBit_and, gt, Bool.and_true]
      have e3 : ∀ p, (N p &&& G).testBit (zt k) = (N p).testBit (zt k) := fun p => by rw [Nat.testBit_and, gt, Bool.and_true]
      have st : ∀ p, zw_W Y N G p k + zw_b Y (zt k) p = zw_W Y N G p (k &&& (k - 1)) + zw_b N (zt k) p := fun p => by
        have := zw_step (x := Y p &&& G) (y := N p &&& G) (s := k &&& (k - 1)) (q := zt k) (zy_and_lt (hY p)) (zy_and_lt (hN p)) t4 t6
        rw [t5, e2, e3] at this
        exact this
      have fl : ∀ p, zpc ((N p &&& G) &&& k) = zpc ((N p &&& G) &&& (k &&& (k - 1))) + zw_b N (zt k) p := fun p => by
        have := zw_floor (y := N p &&& G) (s := k &&& (k - 1)) (q := zt k) t4 (zy_and_lt (hN p)) t6
        rw [t5, e3] at this
        exact this
      have v1 : u.2 18 (k &&& (k - 1)) + u.2 17 (zt k) - u.2 16 (zt k) = lN (zk (fun p => zw_W Y N G p k) 12) := by
        rw [r1, hI.2 17 (by decide) (by decide), hI.2 16 (by decide) (by decide), y1, y2, lN_add, zk_add]
        have hle := zk_sub (X := fun p => zw_W Y N G p (k &&& (k - 1)) + zw_b N (zt k) p) (Y := zw_b Y (zt k)) (m := 12) (fun p _ => by have := st p; show zw_b Y (zt k) p ≤ zw_W Y N G p (k &&& (k - 1)) + zw_b N (zt k) p; omega)
        rw [lN_sub hle.2, hle.1]
        exact congrArg lN (zk_cong (fun p _ => by have := st p; show zw_W Y N G p (k &&& (k - 1)) + zw_b N (zt k) p - zw_b Y (zt k) p = zw_W Y N G p k; omega))
      have v2 : u.2 19 (k &&& (k - 1)) + u.2 17 (zt k) = lN (zk (fun p => zpc ((N p &&& G) &&& k)) 12) := by
        rw [r2, hI.2 17 (by decide) (by decide), y2, lN_add, zk_add]
        exact congrArg lN (zk_cong (fun p _ => (fl p).symm))
      rw [v1, v2]
      refine ih (k + 1) _ (by omega) (by omega) ⟨hI.1, fun j a b => by rw [zm_qa_ne b, zm_qa_ne a]; exact hI.2 j a b⟩ (fun s h1 h2 => ?_)
      by_cases z : s = k
      · subst z
        exact ⟨by rw [zm_qa_ne (by decide), zm_qa_at, pk_lus], by rw [zm_qa_at, pk_lus]⟩
      · obtain ⟨q1, q2⟩ := hs s (by omega) h2
        exact ⟨by rw [zm_qa_ne (by decide), zm_qa_at, pk_lun z]; exact q1, by rw [zm_qa_at, pk_lun z, zm_qa_ne (by decide)]; exact q2⟩
theorem k_fillTables {d n G : Nat} {Y N : Nat → Nat} (hn : n ≤ 7) (hG : G < 2 ^ n) (hY : ∀ p, Y p < 128) (hN : ∀ p, N p < 128) {w : zm_S} (h9 : w.1 15 9 = nI n) (h11 : w.1 15 11 = nI G) (hy : zw_y n Y N w) : zm_C zc_H (d + 1) mX4_fillTables [.ref 15] w (zp .null (fun u => zw_I w u ∧ ∀ s, s &&& G = s → u.2 18 s = lN (zk (fun p => zw_W Y N G p s) 12) ∧ u.2 19 s = lN (zk (fun p => zpc ((N p &&& G) &&& s)) 12))) := by
  have hG7 : G < 128 := Nat.lt_of_lt_of_le hG (Nat.pow_le_pow_right (n := 2) (j := 7) (by decide) hn)
  refine zm_C.of mtX4_fillTables.1.2.2.2.2.2.2 rfl (Nat.le_of_ble_eq_true rfl) ?_
  refine gX4_fillTables_0 (vp_in_nI (n := 0) (by decide) (by decide)) (vp_in_nI (n := 0) (by decide) (by decide)) ?_
  rw [z0c]
  refine l_fillA hn hG7 h9 h11 hy (fun u uI u18 u19 => gX4_fillTables_60 ?_) n 0 _ (by omega) ⟨rfl, fun j a b => by rw [zm_qa_ne b, zm_qa_ne a]⟩ ?_ ?_
  · refine l_fillB hn hG hY hN h11 hy G 1 u (by omega) (by decide) uI (fun s h1 _ => ?_)
    obtain rfl : s = 0 := by omega
    refine ⟨?_, ?_⟩
    · rw [u18]
      exact congrArg lN (zk_cong (fun p _ => by rw [zw_e_n hn hG]; unfold zw_W; rw [zs_and127 _ (zy_and_lt (hY p)), Nat.and_zero]; rfl))
    · rw [u19, show zk (fun p => zpc ((N p &&& G) &&& 0)) 12 = zk (fun _ => 0) 12 from zk_cong (fun p _ => by rw [Nat.and_zero]; rfl), zk_z]
      rfl
  · rw [zm_qa_ne (by decide), zm_qa_at, pk_lus, show zw_e Y G 0 = fun _ => 0 from rfl, zk_z]
    rfl
  · rw [zm_qa_at, pk_lus]
/-! ===== the search: what it needs of the numbers ===== -/
theorem zw_c {n G : Nat} {Y N : Nat → Nat} (hn : n ≤ 7) (hG : G < 2 ^ n) (hY : ∀ p, Y p < 128) (hN : ∀ p, N p < 128) (hD : ∀ p, Y p &&& N p = 0) : zo_c (zw_W Y N G) (fun p => N p &&& G) n G (fb_sm (fun p => min (zw_W Y N G p 0) (zw_W Y N G p G)) 12) := by
  have hG7 : G < 128 := Nat.lt_of_lt_of_le hG (Nat.pow_le_pow_right (n := 2) (j := 7) (by decide) hn)
  refine ⟨⟨hn, hG⟩, fun p s => ?_, fun p => zy_and_lt (hN p), fun p s0 s hs => ?_, fun p => ?_, rfl⟩
  · have h0 : (Y p &&& G &&& (127 ^^^ s)) &&& (N p &&& G &&& s) = 0 := by
      apply Nat.eq_of_testBit_eq
      intro i
      have := congrArg (fun x => x.testBit i) (hD p)
      simp only [Nat.testBit_and, Nat.zero_testBit] at this ⊢
      cases h1 : (Y p).testBit i
      · simp
      · rw [h1] at this
        simp only [Bool.true_and] at this
        rw [this]
        simp
    unfold zw_W
    rw [← zpc_or h0]
    exact zpc_le7 _ (zy_or_lt (zy_and_lt (zy_and_lt (hY p))) (zy_and_lt (zy_and_lt (hN p))))
  · refine Nat.le_trans (fb_ct_sub (fun i _ h => ?_)) (Nat.le_add_left _ _)
    rw [Nat.testBit_and, Bool.and_eq_true] at h ⊢
    refine ⟨h.1, ?_⟩
    have h2 := h.2
    rw [← hs, Nat.testBit_and, Bool.and_eq_true] at h2
    exact h2.2
  · unfold zw_W
    rw [(zo_dis0 (Y p &&& G) (zy_and_lt (hY p)) G hG7).mpr (by rw [Nat.and_assoc, Nat.and_self])]
    show zpc 0 + _ = _
    rw [show zpc 0 = 0 from rfl, Nat.zero_add]
theorem k_search {d n G : Nat} {A : Option Nat} {Y N : Nat → Nat} {sk : Bool} (h2 : 2 ≤ n) (hn : n ≤ 7) (hA : ∀ q, A = some q → q < n) (hG : G < 2 ^ n) (hG0 : G ≠ 0) (hR : zo_r n G 0 = zs_ql n A) (hsk : sk = true → A = none) (hY : ∀ p, Y p < 128) (hN : ∀ p, N p < 128) (hD : ∀ p, Y p &&& N p = 0) {w : zm_S} (h9 : w.1 15 9 = nI n) (h8 : w.1 15 8 = zi (sk = true)) (hy : zw_y n Y N w) : zm_C zc_H (d + 8) mX4_search [.ref 15, .int (nI G)] w (zp .null (fun u => u.1 15 12 = nI (zs_bfold (zw_W Y N G) (zs_perms (zs_ql n A))).1 ∧ (sk = true → u.1 15 13 = nI (zs_bfold (zw_W Y N G) (zs_perms (zs_ql n A))).2.1 ∧ ∀ j, j < n → u.1 21 j = nI ((zs_bfold (zw_W Y N G) (zs_perms (zs_ql n A))).2.2.getD j 0)) ∧ (∀ k, k ≠ 15 → k ≠ 20 → k ≠ 21 → u.1 k = w.1 k) ∧ (∀ j, j ≠ 11 → j ≠ 12 → j ≠ 13 → u.1 15 j = w.1 15 j) ∧ (∀ k, k ≠ 18 → k ≠ 19 → u.2 k = w.2 k) ∧ (sk = false → u.1 21 = w.1 21))) := by
  have hG7 : G < 128 := Nat.lt_of_lt_of_le hG (Nat.pow_le_pow_right (n := 2) (j := 7) (by decide) hn)
  have hc := zw_c hn hG hY hN hD
  have hF := hc.F
  generalize hFe : fb_sm (fun p => min (zw_W Y N G p 0) (zw_W Y N G p G)) 12 = F at hc hF
  obtain ⟨m, hm⟩ : ∃ m, (zo_r n G 0).length = m + 1 := by
    cases hl : (zo_r n G 0).length with
    | zero => exact absurd ((zo_r_nil hG (Nat.zero_and G)).mp (List.length_eq_zero_iff.mp hl)).symm hG0
    | succ m => exact ⟨m, rfl⟩
  have hmn : m + 1 ≤ n := by
    rw [← hm]
    exact Nat.le_trans (List.length_filter_le _ _) (by simp)
  have hskn : sk = true → m + 1 = n := fun q => by rw [← hm, hR, hsk q, zs_ql_none, List.length_range]
  have hpe : zs_prm (m + 1) (zo_r n G 0) = zs_perms (zs_ql n A) := by
    unfold zs_perms
    rw [← hR, hm]
  have hall : ∀ l, l ∈ zs_perms (zs_ql n A) → zs_of (zw_W Y N G) l 12 ≤ F := by
    intro l hl
    rw [← hpe] at hl
    have hs := zo_leaf hG (m + 1) [] (Nat.zero_and G) hm l hl
    have hlen := zs_prm_len _ _ _ hl
    exact zo_fit hc (fun q => by rw [q] at hlen; cases hlen) hs
  obtain ⟨l0, hl0⟩ := zs_perms_ne h2 hn hA
  have hle : (zs_bfold (zw_W Y N G) (zs_perms (zs_ql n A))).1 ≤ F := Nat.le_trans ((zs_bf (zw_W Y N G) (zs_perms (zs_ql n A)) (10000, 0, [])).1.2 l0 hl0) (hall l0 hl0)
  have hne : (zs_bfold (zw_W Y N G) (zs_perms (zs_ql n A))).2.1 ≠ 0 := fun q => by
    have := zs_b0 _ _ q
    omega
  refine zm_C.of mtX4_search.1.2.2.2.2.2.2 rfl (Nat.le_of_ble_eq_true rfl) ?_
  refine gX4_search_0 (k_fillTables hn hG hY hN (by rw [zm_pa_at, pk_un (by decide)]; exact h9) (by rw [zm_pa_at, pk_us]) hy) (zp_v (fun u hu => ?_))
  obtain ⟨uI, ut⟩ := hu
  have u11 : u.1 15 11 = nI G := by rw [uI.1, zm_pa_at, pk_us]
  have u15 : ∀ j, j ≠ 11 → u.1 15 j = w.1 15 j := fun j hj => by rw [uI.1, zm_pa_at, pk_un hj]
  obtain ⟨t0, -⟩ := ut 0 (Nat.zero_and G)
  obtain ⟨tG, -⟩ := ut G (Nat.and_self G)
  refine gX4_search_9 (vp_in_nI (n := 0) (by decide) (by decide)) (by rw [u11]; exact vp_in_nI hG7 (by decide)) (by rw [u11, z0c, zx_clamp (by omega), t0, tG]; exact k_lesser (fun p _ => hc.2.1 p 0) (fun p _ => hc.2.1 p G)) (zq_l ?_)
  refine gX4_search_27 (k_total (fun p _ => by have := hc.2.1 p 0; show min (zw_W Y N G p 0) _ ≤ 7; omega)) (zq_i ?_)
  rw [hFe, show zk (fun p => min (zw_W Y N G p 0) (zw_W Y N G p G)) 12 = zk (zo_X (zw_W Y N G) G []) 12 from zk_cong (fun p _ => Nat.min_comm _ _)]
  have hz : zt_T n G (zw_W Y N G) (fun p => N p &&& G) sk (zm_pi (zm_pi u 15 12 (nI F)) 15 13 0) := by
    refine ⟨?_, ?_, ?_, ut⟩
    · rw [zm_pa_at, pk_un (by decide), zm_pa_at, pk_un (by decide), u15 9 (by decide)]; exact h9
    · rw [zm_pa_at, pk_un (by decide), zm_pa_at, pk_un (by decide)]; exact u11
    · rw [zm_pa_at, pk_un (by decide), zm_pa_at, pk_un (by decide), u15 8 (by decide)]; exact h8
  have hJ : zt_J n (zw_W Y N G) sk F [] (zm_pi (zm_pi u 15 12 (nI F)) 15 13 0) := by
    refine ⟨?_, fun _ => ⟨?_, fun q => absurd rfl q⟩⟩
    · rw [zm_pa_at, pk_un (by decide), zm_pa_at, pk_us]
      show nI F = nI (min F 10000)
      rw [Nat.min_eq_left (by omega)]
    · rw [zm_pa_at, pk_us]; rfl
  have h7 : 7 ^ (m + 1) ≤ 7 ^ 7 := Nat.pow_le_pow_right (by decide) (by omega)
  have hE := k_extend hc (sk := sk) m [] [] (d + 6 - m) _ hm (by simpa using hmn) (fun q => by simpa using hskn q) (Nat.zero_and G) hz hJ (fun j hj => absurd hj (Nat.not_lt_zero j)) (by rw [List.length_nil]; omega) (fun l hl => absurd hl List.not_mem_nil)
  rw [show d + 6 - m + m + 1 = d + 7 by omega] at hE
  refine gX4_search_33 hE (zp_v (fun z hzz => gX4_search_48 ?_))
  obtain ⟨zJ, zK⟩ := hzz
  have eL : [] ++ (zs_prm (m + 1) (zo_r n G (zo_s []))).map (fun r => [] ++ r) = zs_perms (zs_ql n A) := by
    rw [← hpe, List.nil_append]
    exact List.map_id _
  rw [eL] at zJ
  refine ⟨rfl, ?_, fun q => ⟨(zJ.2 q).1, (zJ.2 q).2 hne⟩, fun k a b c => ?_, fun j a b c => ?_, fun k a b => ?_, fun q => ?_⟩
  · rw [zJ.1, Nat.min_eq_right hle]
  · rw [zK.1 k a b c, zm_pa_ne a, zm_pa_ne a, uI.1, zm_pa_ne a]
  · rw [zK.2.2.1 j b c, zm_pa_at, pk_un c, zm_pa_at, pk_un b, u15 j a]
  · rw [zK.2.1]
    exact uI.2 k a b
  · rw [zK.2.2.2.2 q, zm_pa_ne (by decide), zm_pa_ne (by decide), uI.1, zm_pa_ne (by decide)]
