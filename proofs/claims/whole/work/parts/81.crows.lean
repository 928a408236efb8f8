/-! ===== the answers, taken over into lanes ===== -/
def zw_p (a : zs_A) (x j m : Nat) : Nat := fb_sm (fun i => if zs_S a i j = x then 16 ^ i else 0) m
def zw_M (w u : zm_S) : Prop := u.1 = w.1 ∧ ∀ k, k ≠ 16 → k ≠ 17 → u.2 k = w.2 k
theorem zw_one : ∀ p, p < 12 → (1 : Int64) <<< (((4 : Int32) * nI p).toInt64 &&& 63) = lN (16 ^ p) := by decide +kernel
theorem zw_p_1 (a : zs_A) (x j m : Nat) : zw_p a x j (m + 1) = zw_p a x j m + (if zs_S a m j = x then 16 ^ m else 0) := fb_sm_succ _ _
theorem l_takeIn {d : Nat} {a : zs_A} {w : zm_S} (ha : zs_ok a) (hF : zc_F (zs_S a) w) (h9 : w.1 15 9 = nI (a.1 0 0)) {p : Nat} (hp : p < 12) {Q : Value → zm_S → Prop} (hQ : ∀ u, zw_M w u → (∀ j, j < a.1 0 0 → u.2 16 j = lN (zw_p a 1 j (p + 1)) ∧ u.2 17 j = lN (zw_p a 0 j (p + 1))) → zm_T zc_H (d + 1) mX4_takeAnswers Q 114 [(0, .ref 15), (1, .ref 2), (2, .int (nI p))] [] u) : ∀ (m q : Nat) (u : zm_S), q + m = a.1 0 0 → zw_M w u → (∀ j, j < a.1 0 0 → u.2 16 j = lN (zw_p a 1 j (if j < q then p + 1 else p)) ∧ u.2 17 j = lN (zw_p a 0 j (if j < q then p + 1 else p))) → zm_T zc_H (d + 1) mX4_takeAnswers Q 49 [(0, .ref 15), (1, .ref 2), (2, .int (nI p)), (3, .long (lN (16 ^ p))), (5, .int (nI q))] [] u := by
  have hn := ha.1.2.1
  intro m
  induction m with
  | zero =>
    intro q u hq hM hv
    refine gX4_takeAnswers_49 (fun _ => hQ u hM (fun j hj => ?_)) (fun z => absurd (by rw [hM.1, h9]; exact nI_le (by omega) (by omega)) z)
    have := hv j hj
    rw [if_pos (by omega)] at this
    exact this
  | succ m ih =>
    intro q u hq hM hv
    obtain ⟨v16, v17⟩ := hv q (by omega)
    rw [if_neg (by omega)] at v16 v17
    have hS3 := zs_S_lt ha p q
    refine gX4_takeAnswers_49 (fun z => absurd z (by rw [hM.1, h9]; exact nI_ge (by omega) (by omega))) (fun _ => ?_)
    refine gX4_takeAnswers_58 (k_heard (f := zs_S a) (by unfold zc_F; rw [hM.1]; exact hF) hp (by omega) hS3) (zq_i ?_)
    have i7 : vp_in (nI q) 7 := vp_in_nI (by omega) (by decide)
    have fin2 : ∀ y : Int64, y = lN (if zs_S a p q = 0 then 16 ^ p else 0) → zm_T zc_H (d + 1) mX4_takeAnswers Q 106 [(0, .ref 15), (1, .ref 2), (2, .int (nI p)), (3, .long (lN (16 ^ p))), (5, .int (nI q))] [.long y, .long (u.2 17 (nI q).toNatClampNeg), .int (nI q), .ref 17] (zm_pl u 16 q (lN (zw_p a 1 q (p + 1)))) := by
      intro y ey
      refine gX4_takeAnswers_106 i7 ?_
      rw [nI_1, zx_clamp (by omega), v17, ey, lN_add, ← zw_p_1]
      refine ih (q + 1) _ (by omega) ⟨hM.1, fun k a b => by rw [zm_qa_ne b, zm_qa_ne a]; exact hM.2 k a b⟩ (fun j hj => ?_)
      by_cases z : j = q
      · subst z
        rw [if_pos (by omega)]
        exact ⟨by rw [zm_qa_ne (by decide), zm_qa_at, pk_lus], by rw [zm_qa_at, pk_lus]⟩
      · obtain ⟨q1, q2⟩ := hv j hj
        have ej : (if j < q + 1 then p + 1 else p) = (if j < q then p + 1 else p) := by
          by_cases c : j < q
          · rw [if_pos c, if_pos (by omega)]
          · rw [if_neg c, if_neg (by omega)]
        rw [ej]
        exact ⟨by rw [zm_qa_ne (by decide), zm_qa_at, pk_lun z]; exact q1, by rw [zm_qa_at, pk_lun z, zm_qa_ne (by decide)]; exact q2⟩
    have fin1 : ∀ x : Int64, x = lN (if zs_S a p q = 1 then 16 ^ p else 0) → zm_T zc_H (d + 1) mX4_takeAnswers Q 86 [(0, .ref 15), (1, .ref 2), (2, .int (nI p)), (3, .long (lN (16 ^ p))), (5, .int (nI q)), (6, .int (nI (zs_S a p q)))] [.long x, .long (u.2 16 (nI q).toNatClampNeg), .int (nI q), .ref 16] u := by
      intro x ex
      have es : u.2 16 (nI q).toNatClampNeg + x = lN (zw_p a 1 q (p + 1)) := by rw [zx_clamp (by omega), v16, ex, lN_add, ← zw_p_1]
      refine gX4_takeAnswers_86 i7 i7 ?_ ?_
      all_goals
        rw [es, zx_clamp (n := q) (by omega)]
        intro g
      · refine gX4_takeAnswers_105 ?_
        have := fin2 0 (by rw [if_neg (fun z => g (by rw [z]; rfl))]; rfl)
        rw [zx_clamp (n := q) (by omega)] at this
        exact this
      · refine gX4_takeAnswers_101 ?_
        have g0 : zs_S a p q = 0 := (nI_eq (b := 0) (by omega) (by decide)).mp g
        have := fin2 (lN (16 ^ p)) (by rw [if_pos g0])
        rw [zx_clamp (n := q) (by omega)] at this
        exact this
    refine gX4_takeAnswers_65 i7 (fun g => gX4_takeAnswers_85 (fin1 0 ?_)) (fun g => gX4_takeAnswers_81 (fin1 _ ?_))
    · rw [if_neg (fun z => g (by rw [z]; rfl))]; rfl
    · rw [if_pos ((nI_eq (b := 1) (by omega) (by decide)).mp g)]
theorem l_takeOut {d : Nat} {a : zs_A} {w : zm_S} (ha : zs_ok a) (hF : zc_F (zs_S a) w) (h9 : w.1 15 9 = nI (a.1 0 0)) : ∀ (m p : Nat) (u : zm_S), p + m = 12 → zw_M w u → (∀ j, j < a.1 0 0 → u.2 16 j = lN (zw_p a 1 j p) ∧ u.2 17 j = lN (zw_p a 0 j p)) → zm_T zc_H (d + 1) mX4_takeAnswers (zp .null (fun u => zw_M w u ∧ ∀ j, j < a.1 0 0 → u.2 16 j = lN (zw_l a 1 j) ∧ u.2 17 j = lN (zw_l a 0 j))) 34 [(0, .ref 15), (1, .ref 2), (2, .int (nI p))] [] u := by
  intro m
  induction m with
  | zero =>
    intro p u hp hM hv
    obtain rfl : p = 12 := by omega
    exact gX4_takeAnswers_34 (fun _ => gX4_takeAnswers_120 ⟨rfl, hM, hv⟩) (fun z => absurd (Int32.le_refl _) z)
  | succ m ih =>
    intro p u hp hM hv
    refine gX4_takeAnswers_34 (fun z => absurd z (nI_ge (b := 12) (by omega) (by decide))) (fun _ => gX4_takeAnswers_40 ?_)
    rw [zw_one p (by omega)]
    refine l_takeIn ha hF h9 (by omega) (fun z zM zv => gX4_takeAnswers_114 ?_) (a.1 0 0) 0 u (by omega) hM (fun j hj => by rw [if_neg (Nat.not_lt_zero j)]; exact hv j hj)
    rw [nI_1]
    exact ih (p + 1) z (by omega) zM zv
theorem k_takeAnswers {d : Nat} {a : zs_A} {w : zm_S} (h : zc_A a w) : zm_C zc_H (d + 1) mX4_takeAnswers [.ref 15, .ref 2] w (zp .null (fun u => (∀ k, k ≠ 15 → u.1 k = w.1 k) ∧ (∀ j, j ≠ 9 → j ≠ 10 → u.1 15 j = w.1 15 j) ∧ u.1 15 9 = nI (a.1 0 0) ∧ u.1 15 10 = nI (2 ^ a.1 0 0 - 1) ∧ (∀ k, k ≠ 16 → k ≠ 17 → u.2 k = w.2 k) ∧ ∀ j, j < a.1 0 0 → u.2 16 j = lN (zw_l a 1 j) ∧ u.2 17 j = lN (zw_l a 0 j))) := by
  refine zm_C.of mtX4_takeAnswers.1.2.2.2.2.2.2 rfl (Nat.le_of_ble_eq_true rfl) ?_
  refine gX4_takeAnswers_0 (k_fillL (o := 16) (n := 7) (by decide) rfl 0 _) (zp_v (fun u hu => ?_))
  refine gX4_takeAnswers_24 (k_fillL (o := 17) (n := 7) (by decide) rfl 0 _) (zp_v (fun v hv => gX4_takeAnswers_32 ?_))
  obtain ⟨⟨uk, u1⟩, u0⟩ := hu
  obtain ⟨⟨vk, v1⟩, v0⟩ := hv
  have e1 : v.1 = (zm_pi (zm_pi w 15 9 (w.1 2 9)) 15 10 (w.1 2 10)).1 := v1.trans u1
  have e15 : v.1 15 = upd (upd (w.1 15) 9 (w.1 2 9)) 10 (w.1 2 10) := by rw [e1, zm_pa_at, zm_pa_at]
  have ek : ∀ k, k ≠ 15 → v.1 k = w.1 k := fun k hk => by rw [e1, zm_pa_ne hk, zm_pa_ne hk]
  have hn := h.1.1.2.1
  refine zm_T.post ?_ (l_takeOut h.1 (a := a) (w := v) ?_ ?_ 12 0 v (by omega) ⟨rfl, fun _ _ _ => rfl⟩ (fun j hj => ⟨?_, ?_⟩))
  · rintro r z ⟨h1, ⟨zM, zM2⟩, zv⟩
    refine ⟨h1, fun k hk => by rw [zM, ek k hk], fun j a b => by rw [zM, e15, pk_un b, pk_un a], ?_, ?_, fun k a b => ?_, zv⟩
    · rw [zM, e15, pk_un (by decide), pk_us]; exact h.2.1
    · rw [zM, e15, pk_us]; exact h.2.2.1
    · rw [zM2 k a b, vk k b, uk k a]; rfl
  · exact ⟨fun p hp => by rw [ek 7 (by decide), ek 8 (by decide)]; exact h.2.2.2.1 p hp, fun q hq => by rw [ek 9 (by decide), ek 10 (by decide)]; exact h.2.2.2.2 q hq⟩
  · rw [e15, pk_un (by decide), pk_us]; exact h.2.1
  · rw [vk 16 (by decide), u0 j (by omega)]; rfl
  · rw [v0 j (by omega)]; rfl
theorem k_turn {d : Nat} {w : zm_S} {q : Nat} (hq : q < 7) : zm_C zc_H d mX4_turn [.ref 15, .int (nI q)] w (zq .null (zm_pl (zm_pl w 16 q (w.2 17 q)) 17 q (w.2 16 q))) := by
  refine zm_C.of mtX4_turn.1.2.2.2.2.2.2 rfl (Nat.le_of_ble_eq_true rfl) ?_
  have i7 : vp_in (nI q) 7 := vp_in_nI hq (by decide)
  refine gX4_turn_0 i7 i7 i7 i7 ?_
  rw [zx_clamp (by omega)]
  exact zq_m _ _
/-! ===== the best row ===== -/
theorem zs_Y2 (a : zs_A) (p : Nat) : zs_Y a p < 2 ^ a.1 0 0 := zb_lt _ _
theorem zs_N2 (a : zs_A) (p : Nat) : zs_N a p < 2 ^ a.1 0 0 := zb_lt _ _
theorem zw_lY {a : zs_A} {q : Nat} (hq : q < a.1 0 0) : lN (zw_l a 1 q) = lN (zk (zw_b (zs_Y a) q) 12) ∧ lN (zw_l a 0 q) = lN (zk (zw_b (zs_N a) q) 12) := by
  have key : ∀ x p, (zb (fun q => decide (zs_S a p q = x)) (a.1 0 0)).testBit q = true ↔ zs_S a p q = x := fun x p => by rw [zb_bit, decide_eq_true hq, Bool.true_and, decide_eq_true_iff]
  refine ⟨congrArg lN (fb_sm_cong (fun p _ => ?_)), congrArg lN (fb_sm_cong (fun p _ => ?_))⟩
  · show (if zs_S a p q = 1 then 16 ^ p else 0) = (if (zs_Y a p).testBit q = true then 1 else 0) * 16 ^ p
    by_cases c : zs_S a p q = 1
    · rw [if_pos c, if_pos (show (zs_Y a p).testBit q = true from (key 1 p).mpr c), Nat.one_mul]
    · rw [if_neg c, if_neg (show ¬ (zs_Y a p).testBit q = true from fun z => c ((key 1 p).mp z)), Nat.zero_mul]
  · show (if zs_S a p q = 0 then 16 ^ p else 0) = (if (zs_N a p).testBit q = true then 1 else 0) * 16 ^ p
    by_cases c : zs_S a p q = 0
    · rw [if_pos c, if_pos (show (zs_N a p).testBit q = true from (key 0 p).mpr c), Nat.one_mul]
    · rw [if_neg c, if_neg (show ¬ (zs_N a p).testBit q = true from fun z => c ((key 0 p).mp z)), Nat.zero_mul]
theorem zw_mask {n x : Nat} (h : x < 2 ^ n) : x &&& (2 ^ n - 1) = x := by rw [Nat.and_two_pow_sub_one_eq_mod, Nat.mod_eq_of_lt h]
theorem zw_wg0 (a : zs_A) : zw_W (zs_Y a) (zs_N a) (2 ^ a.1 0 0 - 1) = zs_wg a none none := by
  funext p s
  unfold zw_W zs_wg
  rw [zw_mask (zs_Y2 a p), zw_mask (zs_N2 a p)]
  rfl
theorem zw_ql : ∀ n, n < 8 → zo_r n (2 ^ n - 1) 0 = zs_ql n none := by decide +kernel
theorem zw_qls : ∀ n, n < 8 → ∀ q, q < n → zo_r n ((2 ^ n - 1) &&& (127 ^^^ 2 ^ q)) 0 = zs_ql n (some q) := by decide +kernel
theorem zw_qln : ∀ n, n < 8 → ∀ q, q < n → 2 ≤ n → (2 ^ n - 1) &&& (127 ^^^ 2 ^ q) ≠ 0 := by decide +kernel
theorem zs_YN (a : zs_A) (p : Nat) : zs_Y a p &&& zs_N a p = 0 := by rw [Nat.and_comm]; exact zs_NY a p
/-- the state, with the best row found -/
def zc_S (a : zs_A) (w : zm_S) : Prop := zc_0 a w ∧ (w.1 15 7 = 1 ∧ zc_r a w) ∧ zc_B a w
theorem zc_S.P {a : zs_A} {w : zm_S} (h : zc_S a w) : zc_P a w := ⟨h.1, Or.inr h.2.1, h.2.2⟩
theorem k_searchBest {d : Nat} {a : zs_A} {w : zm_S} (h : zc_P a w) : zm_C zc_H (d + 9) mX4_searchBest [.ref 15, .ref 2] w (zp .null (zc_S a)) := by
  obtain ⟨h0, hR, hB⟩ := h
  have ha := h0.1.1
  have hn := ha.1.2.1
  have p2 : 0 < 2 ^ a.1 0 0 := Nat.two_pow_pos _
  have p1 : 2 ^ a.1 0 0 - 1 ≠ 0 := by
    have : 2 ^ 2 ≤ 2 ^ a.1 0 0 := Nat.pow_le_pow_right (by decide) ha.1.1
    omega
  refine zm_C.of mtX4_searchBest.1.2.2.2.2.2.2 rfl (Nat.le_of_ble_eq_true rfl) ?_
  refine gX4_searchBest_0 (fun _ => ?_) (fun g => gX4_searchBest_7 ?_)
  rotate_left
  · rcases hR with q | q
    · exact absurd q g
    · exact ⟨rfl, h0, q, hB⟩
  refine gX4_searchBest_8 (k_takeAnswers h0.1) (zp_v (fun u hu => ?_))
  obtain ⟨uk, u15, u9, u10, ul, uy⟩ := hu
  refine gX4_searchBest_13 (k_fill (o := 22) (n := 14) (by decide) rfl (-1) _) (zp_v (fun v hv => ?_))
  obtain ⟨⟨vk, v2⟩, v22⟩ := hv
  have v15 : v.1 15 = u.1 15 := vk 15 (by decide)
  have hy : zw_y (a.1 0 0) (zs_Y a) (zs_N a) v := fun q hq => by
    rw [v2, (uy q hq).1, (uy q hq).2]
    exact zw_lY hq
  have hC := k_search (d := d) (n := a.1 0 0) (G := 2 ^ a.1 0 0 - 1) (A := none) (Y := zs_Y a) (N := zs_N a) (sk := true) ha.1.1 hn (fun q hq => by cases hq) (by omega) p1 (zw_ql _ (by omega)) (fun _ => rfl) (zs_Y_lt a ha) (zs_N_lt a ha) (zs_YN a) (w := zm_pi v 15 8 1) (by rw [zm_pa_at, pk_un (by decide), v15]; exact u9) (by rw [zm_pa_at, pk_us]; rfl) hy
  rw [zw_wg0] at hC
  refine gX4_searchBest_21 (by rw [v15, u10]; exact hC) (zp_v (fun z hz => gX4_searchBest_34 ?_))
  obtain ⟨z12, zs, zk1, zk15, zk2, -⟩ := hz
  obtain ⟨z13, z21⟩ := zs rfl
  have zw : ∀ k, k ≠ 15 → k ≠ 20 → k ≠ 21 → k ≠ 22 → z.1 k = w.1 k := fun k a b c e => by rw [zk1 k a b c, zm_pa_ne a, vk k e, uk k a]
  have z22 : z.1 22 = v.1 22 := by rw [zk1 22 (by decide) (by decide) (by decide), zm_pa_ne (by decide)]
  have z9 : z.1 15 9 = nI (a.1 0 0) := by rw [zk15 9 (by decide) (by decide) (by decide), zm_pa_at, pk_un (by decide), v15]; exact u9
  have z10 : z.1 15 10 = nI (2 ^ a.1 0 0 - 1) := by rw [zk15 10 (by decide) (by decide) (by decide), zm_pa_at, pk_un (by decide), v15]; exact u10
  refine ⟨rfl, h0.keep (fun k hk => ?_), ⟨?_, ?_, ?_, ?_, ?_, ?_, fun j hj => ?_, fun q hq i hi => Or.inl ?_, fun q hq => ?_⟩, hB.keep (fun k h1 h2 => ?_)⟩
  · rw [zm_pa_ne (by omega), zm_pa_ne (by omega), zm_pa_ne (by omega), zm_pa_ne (by omega)]
    exact zw k (by omega) (by omega) (by omega) (by omega)
  · rw [zm_pa_at, pk_us]
  · rw [zm_pa_at, pk_un (by decide), zm_pa_at, pk_un (by decide), zm_pa_at, pk_un (by decide), zm_pa_at, pk_us]
  · rw [zm_pa_at, pk_un (by decide), zm_pa_at, pk_un (by decide), zm_pa_at, pk_un (by decide), zm_pa_at, pk_un (by decide)]
    exact z9
  · rw [zm_pa_at, pk_un (by decide), zm_pa_at, pk_un (by decide), zm_pa_at, pk_un (by decide), zm_pa_at, pk_un (by decide)]
    exact z10
  · rw [zm_pa_at, pk_un (by decide), zm_pa_at, pk_un (by decide), zm_pa_at, pk_us]
    exact z12
  · rw [zm_pa_at, pk_un (by decide), zm_pa_at, pk_us]
    exact z13
  · rw [zm_pa_ne (by decide), zm_pa_ne (by decide), zm_pa_ne (by decide), zm_pa_ne (by decide)]
    exact z21 j hj
  · rw [zm_pa_ne (by decide), zm_pa_ne (by decide), zm_pa_ne (by decide), zm_pa_ne (by decide), z22]
    exact v22 _ (by omega)
  · show z.2 16 q = _ ∧ z.2 17 q = _
    rw [zk2 16 (by decide) (by decide), zk2 17 (by decide) (by decide)]
    show v.2 16 q = _ ∧ v.2 17 q = _
    rw [v2]
    exact uy q hq
  · rw [zm_pa_ne (by omega), zm_pa_ne (by omega), zm_pa_ne (by omega), zm_pa_ne (by omega)]
    exact zw k (by omega) (by omega) (by omega) (by omega)
