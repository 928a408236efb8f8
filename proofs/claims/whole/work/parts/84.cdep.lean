/-! ===== what depends on what ===== -/
theorem zs_say_cong {a b : zs_A} (h0 : a.1 0 1 = b.1 0 1) (h2 : a.1 2 = b.1 2) (h3 : a.1 3 = b.1 3) (h4 : a.1 4 = b.1 4) (h5 : a.1 5 = b.1 5) (p q : Nat) : ∀ k, zs_say a p q k = zs_say b p q k
  | 0 => rfl
  | k + 1 => by
    show (if a.1 2 k = p ∧ a.1 3 k = q ∧ a.1 5 k ≤ a.1 0 1 then a.1 4 k else zs_say a p q k) = (if b.1 2 k = p ∧ b.1 3 k = q ∧ b.1 5 k ≤ b.1 0 1 then b.1 4 k else zs_say b p q k)
    rw [h0, h2, h3, h4, h5, zs_say_cong h0 h2 h3 h4 h5 p q k]
theorem zs_S_cong {a b : zs_A} (h0 : a.1 0 1 = b.1 0 1) (h1 : a.1 1 0 = b.1 1 0) (h2 : a.1 2 = b.1 2) (h3 : a.1 3 = b.1 3) (h4 : a.1 4 = b.1 4) (h5 : a.1 5 = b.1 5) : zs_S a = zs_S b := by
  funext p q
  unfold zs_S
  rw [h1]
  exact zs_say_cong h0 h2 h3 h4 h5 p q _
theorem zs_let_cong {a b : zs_A} (h6 : a.1 6 0 = b.1 6 0) (h7 : a.1 7 = b.1 7) : zs_let a = zs_let b := by
  funext i
  unfold zs_let
  rw [h6, h7]
theorem zs_part_cong {a b : zs_A} (h6 : a.1 6 0 = b.1 6 0) (h7 : a.1 7 = b.1 7) : zs_part a = zs_part b := by
  funext tn i
  unfold zs_part
  rw [zs_let_cong h6 h7, h6, h7]
theorem zs_rds_cong {a b : zs_A} (h6 : a.1 6 0 = b.1 6 0) (h7 : a.1 7 = b.1 7) : ∀ m, zs_rds a m = zs_rds b m
  | 0 => by funext i c tn; rfl
  | m + 1 => by
    funext i c tn
    rw [zs_rds, zs_rds, zs_part_cong h6 h7, h6, h7, zs_rds_cong h6 h7 m]
theorem zs_reads_cong {a b : zs_A} (h6 : a.1 6 0 = b.1 6 0) (h7 : a.1 7 = b.1 7) : zs_reads a = zs_reads b := by
  unfold zs_reads
  rw [h6, zs_rds_cong h6 h7]
theorem zs_Y_cong {a b : zs_A} (hS : zs_S a = zs_S b) (hn : a.1 0 0 = b.1 0 0) : zs_Y a = zs_Y b := by
  funext p
  unfold zs_Y
  rw [hS, hn]
theorem zs_N_cong {a b : zs_A} (hS : zs_S a = zs_S b) (hn : a.1 0 0 = b.1 0 0) : zs_N a = zs_N b := by
  funext p
  unfold zs_N
  rw [hS, hn]
theorem zs_best_cong {a b : zs_A} (hS : zs_S a = zs_S b) (hn : a.1 0 0 = b.1 0 0) : zs_best a = zs_best b := by
  have e : zs_wg a = zs_wg b := by
    funext A T p s
    unfold zs_wg zs_vy zs_vn
    rw [zs_Y_cong hS hn, zs_N_cong hS hn]
  funext A T
  unfold zs_best
  rw [e, hn]
theorem zs_wo_cong {a b : zs_A} (hS : zs_S a = zs_S b) (hn : a.1 0 0 = b.1 0 0) : zs_wo a = zs_wo b := by
  funext q w
  unfold zs_wo
  rw [zs_best_cong hS hn]
theorem zw_l_cong {a b : zs_A} (hS : zs_S a = zs_S b) : zw_l a = zw_l b := by
  funext x q
  unfold zw_l
  rw [hS]
theorem zc_r.cong {a b : zs_A} {w : zm_S} (hS : zs_S a = zs_S b) (hn : a.1 0 0 = b.1 0 0) (h : zc_r a w) : zc_r b w := by
  unfold zc_r at h ⊢
  rw [zs_best_cong hS hn, zs_wo_cong hS hn, zw_l_cong hS, hn] at h
  exact h
theorem zc_R.cong {a b : zs_A} {w : zm_S} (hS : zs_S a = zs_S b) (hn : a.1 0 0 = b.1 0 0) (h : zc_R a w) : zc_R b w := h.imp id (fun q => ⟨q.1, q.2.cong hS hn⟩)
theorem zs_need_cong {a b : zs_A} (hS : zs_S a = zs_S b) (hr : zs_reads a = zs_reads b) (h2 : a.1 0 2 = b.1 0 2) : zs_need a = zs_need b := by
  funext w x y
  unfold zs_need zs_tn zs_two
  rw [hr, hS, h2]
theorem zs_nd_cong {a b : zs_A} (hS : zs_S a = zs_S b) (hr : zs_reads a = zs_reads b) (h0 : a.1 0 = b.1 0) : zs_nd a = zs_nd b := by
  funext y
  unfold zs_nd
  rw [zs_need_cong hS hr (by rw [h0]), h0]
theorem zs_stk_cong {a b : zs_A} (hS : zs_S a = zs_S b) (hr : zs_reads a = zs_reads b) (h0 : a.1 0 = b.1 0) (s : Nat) : ∀ k, zs_stk a s k = zs_stk b s k
  | 0 => rfl
  | k + 1 => by rw [zs_stk, zs_stk, zs_stk_cong hS hr h0 s k, zs_nd_cong hS hr h0]
theorem zs_st_cong {a b : zs_A} (hS : zs_S a = zs_S b) (hr : zs_reads a = zs_reads b) (h0 : a.1 0 = b.1 0) : zs_st a = zs_st b := by
  funext s
  unfold zs_st
  rw [h0]
  exact zs_stk_cong hS hr h0 s _
theorem zc_b.cong {a b : zs_A} {w : zm_S} (hS : zs_S a = zs_S b) (hr : zs_reads a = zs_reads b) (h0 : a.1 0 = b.1 0) (h : zc_b a w) : zc_b b w := by
  unfold zc_b zs_cnt at h ⊢
  rw [zs_st_cong hS hr h0, h0] at h
  exact h
theorem zc_B.cong {a b : zs_A} {w : zm_S} (hS : zs_S a = zs_S b) (hr : zs_reads a = zs_reads b) (h0 : a.1 0 = b.1 0) (h : zc_B a w) : zc_B b w := h.imp id (fun q => ⟨q.1, q.2.cong hS hr h0⟩)
theorem zc_2.cong {a b : zs_A} {w : zm_S} (h1 : a.1 1 0 = b.1 1 0) (h2 : a.1 2 = b.1 2) (h3 : a.1 3 = b.1 3) (h4 : a.1 4 = b.1 4) (h5 : a.1 5 = b.1 5) (h : zc_2 a w) : zc_2 b w := by
  unfold zc_2 at h ⊢
  rw [h1, h2, h3, h4, h5] at h
  exact h
theorem zc_T.cong {a b : zs_A} {w : zm_S} (h6 : a.1 6 0 = b.1 6 0) (h7 : a.1 7 = b.1 7) (h : zc_T a w) : zc_T b w := by
  unfold zc_T zc_X zs_tn at h ⊢
  rw [zs_reads_cong h6 h7, h6, h7] at h
  exact h
theorem zc_4.cong {a b : zs_A} {w : zm_S} (h8 : a.1 8 = b.1 8) (h9 : a.1 9 = b.1 9) (h2 : a.2 = b.2) (h : zc_4 a w) : zc_4 b w := by
  unfold zc_4 at h ⊢
  rw [h8, h9, h2] at h
  exact h
/-- sheets and findings change: all else is as it was -/
def zs_E (a b : zs_A) : Prop := ∀ c, c ≤ 7 → a.1 c = b.1 c
theorem zs_E.S {a b : zs_A} (e : zs_E a b) : zs_S a = zs_S b := zs_S_cong (by rw [e 0 (by decide)]) (by rw [e 1 (by decide)]) (e 2 (by decide)) (e 3 (by decide)) (e 4 (by decide)) (e 5 (by decide))
theorem zc_P.sheets {a b : zs_A} {w u : zm_S} (e : zs_E a b) (hb : zs_ok b) (h : zc_P a w) (ek : ∀ k, k ≠ 0 → k < 40 → u.1 k = w.1 k) (e2 : u.2 = w.2) (h8 : u.1 0 8 = nI (b.1 10 0)) (h4 : zc_4 b u) : zc_P b u := by
  obtain ⟨⟨⟨-, a9, a10, aF⟩, h2, h11, h1, -, hT, -⟩, hR, hB⟩ := h
  have e0 := e 0 (by decide)
  have hr : zs_reads a = zs_reads b := zs_reads_cong (by rw [e 6 (by decide)]) (e 7 (by decide))
  refine ⟨⟨⟨hb, ?_, ?_, ?_⟩, (h2.cong (by rw [e 1 (by decide)]) (e 2 (by decide)) (e 3 (by decide)) (e 4 (by decide)) (e 5 (by decide))).keep (fun k x y => ek k (by omega) (by omega)), ?_, fun i hi => ?_, h8, (hT.cong (by rw [e 6 (by decide)]) (e 7 (by decide))).keep (fun k x y => ek k (by omega) (by omega)), h4⟩, (hR.cong e.S (by rw [e0])).keep (fun k x y => ek k (by omega) (by omega)) e2, (hB.cong e.S hr e0).keep (fun k x y => ek k (by omega) (by omega))⟩
  · rw [ek 2 (by decide) (by decide), ← e0]; exact a9
  · rw [ek 2 (by decide) (by decide), ← e0]; exact a10
  · rw [← e.S]
    exact ⟨fun p hp => by rw [ek 7 (by decide) (by decide), ek 8 (by decide) (by decide)]; exact aF.1 p hp, fun q hq => by rw [ek 9 (by decide) (by decide), ek 10 (by decide) (by decide)]; exact aF.2 q hq⟩
  · rw [ek 2 (by decide) (by decide), ← e0]; exact h11
  · rw [ek 1 (by decide) (by decide), ← e0]; exact h1 i hi
theorem zc_P.late {a : zs_A} {w : zm_S} (h : zc_P a w) {k : Nat} (hk : k ≤ 5) : zc_P (zs_late a k) (zm_pi w 0 8 (nI k)) :=
  h.sheets (b := zs_late a k) (fun c hc => funext fun i => (zs_u_c (by omega)).symm) (zs_late_ok h.1.1.1 hk) (fun k' a b => zm_pa_ne a) rfl (by rw [zm_pa_at, pk_us]; show nI k = nI (zs_u a.1 10 0 k 10 0); rw [zs_u_same]) (zc_4.keep (w := w) (h.1.2.2.2.2.2.2.cong (b := zs_late a k) rfl rfl rfl) (fun k' hk' => zm_pa_ne (by omega)))
theorem k_tellFinding {d : Nat} {w : zm_S} (x : Int32) : zm_C zc_H d mX7_tellFinding [.ref 0, .int x] w (zq (.int (-10 - x)) (zm_pi w 0 8 x)) := by
  refine zm_C.of mtX7_tellFinding.1.2.2.2.2.2.2 rfl (Nat.le_of_ble_eq_true rfl) ?_
  exact gX7_tellFinding_0 (zq_m _ _)
theorem zc_P.metp {a : zs_A} {w : zm_S} (h : zc_P a w) {k : Nat} {x : Int32} (hx : x = nI k) (hk : k ≤ 5) : zp (.int (zs_met a k).1) (zc_P (zs_met a k).2) (.int (-10 - x)) (zm_pi w 0 8 x) := by
  subst hx
  exact ⟨rfl, h.late hk⟩
/-! ===== answers told ===== -/
theorem k_tellOne {d : Nat} {a : zs_A} {w : zm_S} (h : zc_P a w) {p q x tm : Nat} (hp : p < 12) (hq : q < 7) (hx : x < 3) (ht1 : zs_lt a ≤ tm) (ht2 : tm ≤ 999) (hf : a.1 1 0 ≠ 160) : zm_C zc_H (d + 3) mX7_tellOne [.ref 0, .int (nI p), .int (nI q), .int (nI x), .int (nI tm)] w (zp .null (zc_P (zs_tell a p q x tm))) := by
  obtain ⟨⟨hA, h2, h11, h1, h08, hT, h4⟩, hR, hB⟩ := h
  refine zm_C.of mtX7_tellOne.1.2.2.2.2.2.2 rfl (Nat.le_of_ble_eq_true rfl) ?_
  refine gX7_tellOne_0 (k_tell hA h2 h11 hp hq hx ht1 ht2 hf) (zp_v (fun u hu => gX7_tellOne_12 ?_))
  obtain ⟨uA, u2, u11, uk, ul⟩ := hu
  have hc : ∀ c, 6 ≤ c ∨ c = 0 → a.1 c = (zs_tell a p q x tm).1 c := fun c hc => by
    funext i
    show _ = zs_u _ _ _ _ _ _
    rw [zs_u_c (by omega), zs_u_c (by omega), zs_u_c (by omega), zs_u_c (by omega), zs_u_c (by omega)]
  have e0 : (zs_tell a p q x tm).1 0 = a.1 0 := (hc 0 (by omega)).symm
  have kk : ∀ k, k ≠ 15 → k ≠ 23 → (zm_pi (zm_pi u 15 7 0) 23 4 0).1 k = u.1 k := fun k a b => by rw [zm_pa_ne b, zm_pa_ne a]
  refine ⟨rfl, ⟨uA.keep (fun k hk => kk k (by omega) (by omega)), u2.keep (fun k x y => kk k (by omega) (by omega)), by rw [kk 2 (by decide) (by decide), e0]; exact u11, fun i hi => by rw [kk 1 (by decide) (by decide), uk 1 (by decide), e0]; exact h1 i hi, ?_, (hT.cong (by rw [hc 6 (by omega)]) (hc 7 (by omega))).keep (fun k x y => by rw [kk k (by omega) (by omega), uk k (by omega)]), (h4.cong (hc 8 (by omega)) (hc 9 (by omega)) rfl).keep (fun k x => by rw [kk k (by omega) (by omega), uk k (by omega)])⟩, Or.inl ?_, Or.inl ?_⟩
  · rw [kk 0 (by decide) (by decide), uk 0 (by decide), ← hc 10 (by omega)]; exact h08
  · rw [zm_pa_ne (by decide), zm_pa_at, pk_us]
  · rw [zm_pa_at, pk_us]
theorem zx_time {t : Int32} {l : Nat} (hl : l ≤ 999) (h : nI l ≤ t ∧ t ≤ 999) : ∃ j, l ≤ j ∧ j ≤ 999 ∧ t = nI j := by
  obtain ⟨j, hj, rfl⟩ := zx_ofle (n := 999) ⟨Int32.le_trans (nI_pos' (by omega)) h.1, h.2⟩ (by decide)
  exact ⟨j, (nI_leI (by omega) (by omega)).mp h.1, hj, rfl⟩
theorem c_answer {d : Nat} {a : zs_A} {w : zm_S} (h : zc_P a w) (p q x tm : Int32) : zm_C zc_H (d + 4) mX7_answer [.ref 0, .int p, .int q, .int x, .int tm] w (zp (.int (zs_answer a p q x tm).1) (zc_P (zs_answer a p q x tm).2)) := by
  have ha := h.1.1.1
  have h2 := h.1.2.1
  refine zm_C.of mtX7_answer.1.2.2.2.2.2.2 rfl (Nat.le_of_ble_eq_true rfl) ?_
  have bad : ¬ ((0 ≤ p ∧ p < 12) ∧ (0 ≤ q ∧ q < 7) ∧ (0 ≤ x ∧ x < 3) ∧ nI (zs_lt a) ≤ tm ∧ tm ≤ 999) → zm_T zc_H (d + 4) mX7_answer (zp (.int (zs_answer a p q x tm).1) (zc_P (zs_answer a p q x tm).2)) 38 [] [] w := fun hb => gX7_answer_38 (by rw [zs_answer, if_neg hb]; exact ⟨rfl, h⟩)
  refine gX7_answer_0 (k_within _ _) (zq_i ?_)
  refine gX7_answer_6 (fun g => bad (fun c => zi_0.mp g c.1)) (fun g1 => ?_)
  refine gX7_answer_9 (k_within _ _) (zq_i ?_)
  refine gX7_answer_15 (fun g => bad (fun c => zi_0.mp g c.2.1)) (fun g2 => ?_)
  refine gX7_answer_18 (k_within _ _) (zq_i ?_)
  refine gX7_answer_23 (fun g => bad (fun c => zi_0.mp g c.2.2.1)) (fun g3 => ?_)
  refine gX7_answer_26 (k_timeFits ha h2 tm) (zq_i ?_)
  refine gX7_answer_35 (fun g4 => ?_) (fun g => bad (fun c => zi_0.mp g c.2.2.2))
  have hG : (0 ≤ p ∧ p < 12) ∧ (0 ≤ q ∧ q < 7) ∧ (0 ≤ x ∧ x < 3) ∧ nI (zs_lt a) ≤ tm ∧ tm ≤ 999 := ⟨zi_n0.mp g1, zi_n0.mp g2, zi_n0.mp g3, zi_n0.mp g4⟩
  rw [zs_answer, if_pos hG]
  refine gX7_answer_41 (k_isFull ha h2) (zq_i ?_)
  refine gX7_answer_48 (fun g => ?_) (fun g => gX7_answer_51 (by rw [if_pos (zi_n0.mp g)]; exact ⟨rfl, h⟩))
  rw [if_neg (zi_0.mp g)]
  obtain ⟨p, hp, rfl⟩ := zx_of (n := 12) hG.1 (by decide)
  obtain ⟨q, hq, rfl⟩ := zx_of (n := 7) hG.2.1 (by decide)
  obtain ⟨x, hx, rfl⟩ := zx_of (n := 3) hG.2.2.1 (by decide)
  obtain ⟨tm, ht1, ht2, rfl⟩ := zx_time (zs_lt_le ha) hG.2.2.2
  rw [zx_clamp (by omega), zx_clamp (by omega), zx_clamp (by omega), zx_clamp (by omega)]
  refine gX7_answer_54 (k_tellOne h hp hq hx ht1 ht2 (zi_0.mp g)) (zp_v (fun u hu => gX7_answer_63 ?_))
  rw [hu.1.2.1.1, zs_tell_t]
  exact ⟨rfl, hu⟩
theorem c_said {d : Nat} {a : zs_A} {w : zm_S} (h : zc_P a w) (p q : Int32) : zm_C zc_H (d + 2) mX7_said [.ref 0, .int p, .int q] w (zp (.int (zs_said a p q)) (zc_P a)) := by
  refine zm_C.of mtX7_said.1.2.2.2.2.2.2 rfl (Nat.le_of_ble_eq_true rfl) ?_
  have bad : ¬ ((0 ≤ p ∧ p < 12) ∧ 0 ≤ q ∧ q < 7) → zm_T zc_H (d + 2) mX7_said (zp (.int (zs_said a p q)) (zc_P a)) 18 [] [] w := fun hb => gX7_said_18 (by rw [zs_said, if_neg hb]; exact ⟨rfl, h⟩)
  refine gX7_said_0 (k_within _ _) (zq_i ?_)
  refine gX7_said_6 (fun g => bad (fun c => zi_0.mp g c.1)) (fun g1 => ?_)
  refine gX7_said_9 (k_within _ _) (zq_i ?_)
  refine gX7_said_15 (fun g2 => ?_) (fun g => bad (fun c => zi_0.mp g c.2))
  have hG : (0 ≤ p ∧ p < 12) ∧ 0 ≤ q ∧ q < 7 := ⟨zi_n0.mp g1, zi_n0.mp g2⟩
  rw [zs_said, if_pos hG]
  obtain ⟨p, hp, rfl⟩ := zx_of (n := 12) hG.1 (by decide)
  obtain ⟨q, hq, rfl⟩ := zx_of (n := 7) hG.2 (by decide)
  rw [zx_clamp (by omega), zx_clamp (by omega)]
  exact gX7_said_21 (k_heard h.1.1.2.2.2 hp hq (zs_S_lt h.1.1.1 p q)) (zq_i (gX7_said_30 ⟨rfl, h⟩))
theorem c_errors {d : Nat} {a : zs_A} {w : zm_S} (h : zc_P a w) (p s : Int32) : zm_C zc_H (d + 3) mX7_errors [.ref 0, .int p, .int s] w (zp (.int (zs_errors a p s)) (zc_P a)) := by
  refine zm_C.of mtX7_errors.1.2.2.2.2.2.2 rfl (Nat.le_of_ble_eq_true rfl) ?_
  have bad : ¬ ((0 ≤ p ∧ p < 12) ∧ 0 ≤ s ∧ s < 128) → zm_T zc_H (d + 3) mX7_errors (zp (.int (zs_errors a p s)) (zc_P a)) 19 [] [] w := fun hb => gX7_errors_19 (by rw [zs_errors, if_neg hb]; exact ⟨rfl, h⟩)
  refine gX7_errors_0 (k_within _ _) (zq_i ?_)
  refine gX7_errors_6 (fun g => bad (fun c => zi_0.mp g c.1)) (fun g1 => ?_)
  refine gX7_errors_9 (k_within _ _) (zq_i ?_)
  refine gX7_errors_16 (fun g2 => ?_) (fun g => bad (fun c => zi_0.mp g c.2))
  have hG : (0 ≤ p ∧ p < 12) ∧ 0 ≤ s ∧ s < 128 := ⟨zi_n0.mp g1, zi_n0.mp g2⟩
  rw [zs_errors, if_pos hG]
  obtain ⟨p, hp, rfl⟩ := zx_of (n := 12) hG.1 (by decide)
  obtain ⟨s, hs, rfl⟩ := zx_of (n := 128) hG.2 (by decide)
  rw [zx_clamp (by omega), zx_clamp (by omega)]
  exact gX7_errors_22 (k_errorsWith h.1.1 hp hs) (zq_i (gX7_errors_31 ⟨rfl, h⟩))
theorem c_fault {d : Nat} {a : zs_A} {w : zm_S} (h : zc_P a w) : zm_C zc_H d mX7_fault [.ref 0] w (zp (.int (zs_fault a)) (zc_P a)) := by
  refine zm_C.of mtX7_fault.1.2.2.2.2.2.2 rfl (Nat.le_of_ble_eq_true rfl) ?_
  refine gX7_fault_0 ?_
  rw [h.1.2.2.2.2.2.1.2.2.1]
  exact ⟨rfl, h⟩
