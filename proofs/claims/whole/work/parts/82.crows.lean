/-! ===== a question turned, or set aside ===== -/
theorem zw_tb (x y q j : Nat) : (x ^^^ ((x ^^^ y) &&& 2 ^ q)).testBit j = if j = q then y.testBit j else x.testBit j := by
  rw [Nat.testBit_xor, Nat.testBit_and, Nat.testBit_xor, Nat.testBit_two_pow]
  by_cases c : j = q
  · subst c
    rw [if_pos rfl, decide_eq_true rfl]
    cases x.testBit j <;> cases y.testBit j <;> rfl
  · rw [if_neg c, decide_eq_false (fun z => c z.symm), Bool.and_false, Bool.xor_false]
theorem zw_tl {x y n : Nat} (q : Nat) (hx : x < 2 ^ n) (hy : y < 2 ^ n) : x ^^^ ((x ^^^ y) &&& 2 ^ q) < 2 ^ n := Nat.xor_lt_two_pow hx (Nat.lt_of_le_of_lt Nat.and_le_left (Nat.xor_lt_two_pow hx hy))
theorem zw_vy (a : zs_A) (q p : Nat) : zs_vy a none (some q) p = zs_Y a p ^^^ ((zs_Y a p ^^^ zs_N a p) &&& 2 ^ q) := rfl
theorem zw_vn (a : zs_A) (q p : Nat) : zs_vn a none (some q) p = zs_N a p ^^^ ((zs_N a p ^^^ zs_Y a p) &&& 2 ^ q) := by
  rw [Nat.xor_comm (zs_N a p) (zs_Y a p)]
  rfl
theorem zw_wgT (a : zs_A) (q : Nat) : zw_W (zs_vy a none (some q)) (zs_vn a none (some q)) (2 ^ a.1 0 0 - 1) = zs_wg a none (some q) := by
  funext p s
  unfold zw_W zs_wg
  rw [zw_mask (by rw [zw_vy]; exact zw_tl q (zs_Y2 a p) (zs_N2 a p)), zw_mask (by rw [zw_vn]; exact zw_tl q (zs_N2 a p) (zs_Y2 a p))]
theorem zw_wgA {a : zs_A} (ha : zs_ok a) (q : Nat) : zw_W (zs_Y a) (zs_N a) ((2 ^ a.1 0 0 - 1) &&& (127 ^^^ 2 ^ q)) = zs_wg a (some q) none := by
  funext p s
  unfold zw_W zs_wg
  rw [← Nat.and_assoc, ← Nat.and_assoc (zs_N a p), zw_mask (zs_Y2 a p), zw_mask (zs_N2 a p)]
  rfl
theorem zw_dT (a : zs_A) (q p : Nat) : zs_vy a none (some q) p &&& zs_vn a none (some q) p = 0 := by
  apply Nat.eq_of_testBit_eq
  intro j
  have := congrArg (fun x => x.testBit j) (zs_YN a p)
  simp only [Nat.testBit_and, Nat.zero_testBit] at this
  rw [Nat.testBit_and, zw_vy, zw_vn, zw_tb, zw_tb, Nat.zero_testBit]
  by_cases c : j = q
  · rw [if_pos c, if_pos c, Bool.and_comm]
    exact this
  · rw [if_neg c, if_neg c]
    exact this
theorem zw_bT (a : zs_A) (q : Nat) : zw_b (zs_vy a none (some q)) q = zw_b (zs_N a) q ∧ zw_b (zs_vn a none (some q)) q = zw_b (zs_Y a) q ∧ ∀ j, j ≠ q → zw_b (zs_vy a none (some q)) j = zw_b (zs_Y a) j ∧ zw_b (zs_vn a none (some q)) j = zw_b (zs_N a) j := by
  refine ⟨funext fun p => ?_, funext fun p => ?_, fun j hj => ⟨funext fun p => ?_, funext fun p => ?_⟩⟩
  · unfold zw_b
    rw [zw_vy, zw_tb, if_pos rfl]
  · unfold zw_b
    rw [zw_vn, zw_tb, if_pos rfl]
  · unfold zw_b
    rw [zw_vy, zw_tb, if_neg hj]
  · unfold zw_b
    rw [zw_vn, zw_tb, if_neg hj]
theorem zc_S.keep {a : zs_A} {w u : zm_S} (h : zc_S a w) (e : ∀ k, k ≠ 15 → k ≠ 20 → u.1 k = w.1 k) (e15 : ∀ j, j ≠ 11 → j ≠ 12 → j ≠ 13 → u.1 15 j = w.1 15 j) (e2 : ∀ q, q < a.1 0 0 → u.2 16 q = w.2 16 q ∧ u.2 17 q = w.2 17 q) : zc_S a u := by
  obtain ⟨h0, ⟨h7, r8, r9, r10, r14, r15, r21, r22, rl⟩, hB⟩ := h
  refine ⟨h0.keep (fun k hk => e k (by omega) (by omega)), ⟨by rw [e15 7 (by decide) (by decide) (by decide)]; exact h7, by rw [e15 8 (by decide) (by decide) (by decide)]; exact r8, by rw [e15 9 (by decide) (by decide) (by decide)]; exact r9, by rw [e15 10 (by decide) (by decide) (by decide)]; exact r10, by rw [e15 14 (by decide) (by decide) (by decide)]; exact r14, by rw [e15 15 (by decide) (by decide) (by decide)]; exact r15, by rw [e 21 (by decide) (by decide)]; exact r21, by rw [e 22 (by decide) (by decide)]; exact r22, fun q hq => ?_⟩, hB.keep (fun k h1 h2 => e k (by omega) (by omega))⟩
  rw [(e2 q hq).1, (e2 q hq).2]
  exact rl q hq
theorem k_offChanged {d : Nat} {a : zs_A} {w : zm_S} (h : zc_S a w) {q i : Nat} (hq : q < a.1 0 0) (hi : i < 2) : zm_C zc_H (d + 9) mX4_offChanged [.ref 15, .int (nI q), .int (nI i)] w (zp (.int (nI (zs_wo a q i))) (zc_S a)) := by
  obtain ⟨h0, ⟨h7, r8, r9, r10, r14, r15, r21, r22, rl⟩, hB⟩ := id h
  have ha := h0.1.1
  have hn := ha.1.2.1
  have p2 : 0 < 2 ^ a.1 0 0 := Nat.two_pow_pos _
  have p1 : 2 ^ a.1 0 0 - 1 ≠ 0 := by
    have : 2 ^ 2 ≤ 2 ^ a.1 0 0 := Nat.pow_le_pow_right (by decide) ha.1.1
    omega
  have p7 : 2 ^ a.1 0 0 ≤ 2 ^ 7 := Nat.pow_le_pow_right (by decide) hn
  have ei : nI i * 7 + nI q = nI (7 * i + q) := by rw [show (7 : Int32) = nI 7 from rfl, pk_mul, nI_add, Nat.mul_comm]
  have i14 : vp_in (nI (7 * i + q)) 14 := vp_in_nI (by omega) (by decide)
  have fin : ∀ v : zm_S, zc_S a v → v.1 15 12 = nI (zs_wo a q i) → zm_T zc_H (d + 9) mX4_offChanged (zp (.int (nI (zs_wo a q i))) (zc_S a)) 57 [(0, .ref 15), (3, .int (nI (7 * i + q)))] [] v := by
    intro v hv h12
    refine gX4_offChanged_57 i14 (gX4_offChanged_67 i14 ?_)
    rw [zx_clamp (by omega), zm_pa_at, pk_us, h12]
    refine ⟨rfl, ?_⟩
    obtain ⟨v0, ⟨v7, s8, s9, s10, s14, s15, s21, s22, sl⟩, vB⟩ := hv
    refine ⟨v0.keep (fun k hk => zm_pa_ne (by omega)), ⟨by rw [zm_pa_ne (by decide)]; exact v7, by rw [zm_pa_ne (by decide)]; exact s8, by rw [zm_pa_ne (by decide)]; exact s9, by rw [zm_pa_ne (by decide)]; exact s10, by rw [zm_pa_ne (by decide)]; exact s14, by rw [zm_pa_ne (by decide)]; exact s15, by rw [zm_pa_ne (by decide)]; exact s21, fun q' hq' i' hi' => ?_, sl⟩, vB.keep (fun k h1 h2 => zm_pa_ne (by omega))⟩
    rw [zm_pa_at]
    by_cases z : 7 * i' + q' = 7 * i + q
    · have e1 : i' = i := by omega
      have e2 : q' = q := by omega
      rw [z, pk_us, e1, e2]
      exact Or.inr rfl
    · rw [pk_un z]
      exact s22 q' hq' i' hi'
  refine zm_C.of mtX4_offChanged.1.2.2.2.2.2.2 rfl (Nat.le_of_ble_eq_true rfl) ?_
  refine gX4_offChanged_0 (by rw [ei]; exact i14) ?_ ?_
  all_goals
    rw [ei, zx_clamp (by omega)]
    intro g
  · refine gX4_offChanged_67 i14 ?_
    rw [zx_clamp (by omega)]
    rcases r22 q hq i hi with z | z
    · exact absurd z g
    · rw [z]
      exact ⟨rfl, h⟩
  refine gX4_offChanged_17 (fun g1 => ?_) (fun g1 => ?_)
  · obtain rfl : i = 0 := by
      have : i ≠ 1 := fun z => g1 (by rw [z]; rfl)
      omega
    have eG : w.1 15 10 &&& (1 <<< (nI q &&& 31) ^^^ -1) = nI ((2 ^ a.1 0 0 - 1) &&& (127 ^^^ 2 ^ q)) := by rw [r10, zy_bit q (by omega), zy_not (by omega) (zy_lt (by omega))]
    have hC := k_search (d := d) (n := a.1 0 0) (G := (2 ^ a.1 0 0 - 1) &&& (127 ^^^ 2 ^ q)) (A := some q) (Y := zs_Y a) (N := zs_N a) (sk := false) ha.1.1 hn (fun x hx => by cases hx; exact hq) (Nat.lt_of_le_of_lt Nat.and_le_left (by omega)) (zw_qln _ (by omega) q hq ha.1.1) (zw_qls _ (by omega) q hq) (fun z => by cases z) (zs_Y_lt a ha) (zs_N_lt a ha) (zs_YN a) (w := w) r9 (by rw [r8]; rfl) (fun j hj => by rw [(rl j hj).1, (rl j hj).2]; exact zw_lY hj)
    rw [zw_wgA ha] at hC
    refine gX4_offChanged_43 (by rw [eG]; exact hC) (zp_v (fun u hu => ?_))
    obtain ⟨u12, -, uk, u15, u2, u21⟩ := hu
    refine fin u (h.keep (fun k x y => ?_) u15 (fun j hj => by rw [u2 16 (by decide) (by decide), u2 17 (by decide) (by decide)]; exact ⟨rfl, rfl⟩)) u12
    by_cases z : k = 21
    · rw [z]; exact u21 rfl
    · exact uk k x y z
  · obtain rfl : i = 1 := (nI_eq (b := 1) (by omega) (by decide)).mp g1
    refine gX4_offChanged_22 (k_turn (by omega)) (zq_v ?_)
    obtain ⟨bT1, bT2, bT3⟩ := zw_bT a q
    have hC := k_search (d := d) (n := a.1 0 0) (G := 2 ^ a.1 0 0 - 1) (A := none) (Y := zs_vy a none (some q)) (N := zs_vn a none (some q)) (sk := false) ha.1.1 hn (fun x hx => by cases hx) (by omega) p1 (zw_ql _ (by omega)) (fun _ => rfl) (fun p => (zs_vyn_lt ha p).1) (fun p => (zs_vyn_lt ha p).2) (zw_dT a q) (w := zm_pl (zm_pl w 16 q (w.2 17 q)) 17 q (w.2 16 q)) r9 (by show w.1 15 8 = _; rw [r8]; rfl) (fun j hj => by
      rw [zm_qa_ne (by decide), zm_qa_at, zm_qa_at]
      by_cases z : j = q
      · subst z
        rw [pk_lus, pk_lus, (rl j hj).1, (rl j hj).2, bT1, bT2]
        exact ⟨(zw_lY hj).2, (zw_lY hj).1⟩
      · rw [pk_lun z, pk_lun z, zm_qa_ne (by decide), (rl j hj).1, (rl j hj).2, (bT3 j z).1, (bT3 j z).2]
        exact zw_lY hj)
    rw [zw_wgT] at hC
    refine gX4_offChanged_27 (by show zm_C zc_H _ mX4_search [.ref 15, .int (w.1 15 10)] _ _; rw [r10]; exact hC) (zp_v (fun u hu => ?_))
    obtain ⟨u12, -, uk, u15, u2, u21⟩ := hu
    have v16 : ∀ j, u.2 16 j = if j = q then w.2 17 q else w.2 16 j := fun j => by
      rw [u2 16 (by decide) (by decide), zm_qa_ne (by decide), zm_qa_at]
      rfl
    have v17 : ∀ j, u.2 17 j = if j = q then w.2 16 q else w.2 17 j := fun j => by
      rw [u2 17 (by decide) (by decide), zm_qa_at]
      by_cases z : j = q
      · rw [z, pk_lus, if_pos rfl]
      · rw [pk_lun z, if_neg z, zm_qa_ne (by decide)]
    refine gX4_offChanged_35 (k_turn (by omega)) (zq_v (gX4_offChanged_40 ?_))
    refine fin _ (h.keep (fun k x y => ?_) (fun j x y z => u15 j x y z) (fun j hj => ?_)) u12
    · by_cases z : k = 21
      · rw [z]; exact u21 rfl
      · exact uk k x y z
    · rw [zm_qa_ne (by decide), zm_qa_at, zm_qa_at]
      by_cases z : j = q
      · subst z
        rw [pk_lus, pk_lus, v16, v17, if_pos rfl, if_pos rfl]
        exact ⟨rfl, rfl⟩
      · rw [pk_lun z, pk_lun z, zm_qa_ne (by decide), v16, v17, if_neg z, if_neg z]
        exact ⟨rfl, rfl⟩
