/-! what the items are does not matter -/
theorem zg_say {a b : zs_A} (h : a.1 = b.1) (p q : Nat) : ∀ k, zs_say a p q k = zs_say b p q k
  | 0 => rfl
  | k + 1 => by rw [zs_say, zs_say, zg_say h p q k, h]
theorem zg_S {a b : zs_A} (h : a.1 = b.1) : zs_S a = zs_S b := by
  funext p q
  rw [zs_S, zs_S, zg_say h, h]
theorem zg_Y {a b : zs_A} (h : a.1 = b.1) : zs_Y a = zs_Y b := by
  funext p
  rw [zs_Y, zs_Y, zg_S h, h]
theorem zg_N {a b : zs_A} (h : a.1 = b.1) : zs_N a = zs_N b := by
  funext p
  rw [zs_N, zs_N, zg_S h, h]
theorem zg_err {a b : zs_A} (h : a.1 = b.1) : zs_err a = zs_err b := by
  funext p s
  rw [zs_err, zs_err, zg_Y h, zg_N h]
theorem zg_two {a b : zs_A} (h : a.1 = b.1) : zs_two a = zs_two b := by
  funext x y c d m
  rw [zs_two, zs_two, zg_S h]
theorem zg_let {a b : zs_A} (h : a.1 = b.1) : zs_let a = zs_let b := by
  funext i
  rw [zs_let, zs_let, h]
theorem zg_part {a b : zs_A} (h : a.1 = b.1) : zs_part a = zs_part b := by
  funext tn i
  rw [zs_part, zs_part, zg_let h, h]
theorem zg_rds {a b : zs_A} (h : a.1 = b.1) : ∀ m i c tn, zs_rds a m i c tn = zs_rds b m i c tn
  | 0, _, _, _ => rfl
  | m + 1, i, c, tn => by
    rw [zs_rds, zs_rds, zg_part h, h]
    split
    · rfl
    · rw [zg_rds h m]
theorem zg_reads {a b : zs_A} (h : a.1 = b.1) : zs_reads a = zs_reads b := by
  rw [zs_reads, zs_reads, zg_rds h, h]
theorem zg_need {a b : zs_A} (h : a.1 = b.1) : zs_need a = zs_need b := by
  funext w x y
  rw [zs_need, zs_need, zs_tn, zs_tn, zg_reads h, zg_two h, h]
theorem zg_nd {a b : zs_A} (h : a.1 = b.1) : zs_nd a = zs_nd b := by
  funext y
  rw [zs_nd, zs_nd, zg_need h, h]
theorem zg_stk {a b : zs_A} (h : a.1 = b.1) (s : Nat) : ∀ k, zs_stk a s k = zs_stk b s k
  | 0 => rfl
  | k + 1 => by rw [zs_stk, zs_stk, zg_stk h s k, zg_nd h]
theorem zg_st {a b : zs_A} (h : a.1 = b.1) : zs_st a = zs_st b := by
  funext s
  rw [zs_st, zs_st, zg_stk h, h]
theorem zg_bl {a b : zs_A} (h : a.1 = b.1) (p : Nat) : ∀ k, zs_bl a p k = zs_bl b p k
  | 0 => rfl
  | k + 1 => by rw [zs_bl, zs_bl, zg_bl h p k, zg_st h, zg_err h]
theorem zg_blw {a b : zs_A} (h : a.1 = b.1) (p w : Nat) : zs_blw a p w = zs_blw b p w := by
  rw [zs_blw, zs_blw, zg_bl h, h]
theorem zs_stk0 (a : zs_A) : ∀ k, zs_stk a 0 k = true
  | 0 => rfl
  | k + 1 => by rw [zs_stk, zs_stk0 a k, Nat.zero_testBit]; rfl
theorem zs_st0 (a : zs_A) : zs_st a 0 = true := zs_stk0 a _
theorem zs_bl_nat (a : zs_A) (p : Nat) : ∀ k, ∃ s, s < k + 1 ∧ zs_st a s = true ∧ (zs_bl a p (k + 1)).1 = nI s
  | 0 => ⟨0, by omega, zs_st0 a, by
      have := zs_err_le a p 0
      rw [zs_bl, if_pos (zs_st0 a)]
      simp only
      rw [if_pos (by show zs_err a p 0 < 10000; omega)]⟩
  | k + 1 => by
    obtain ⟨s, h1, h2, h3⟩ := zs_bl_nat a p k
    rw [zs_bl]
    by_cases c : zs_st a (k + 1) = true
    · rw [if_pos c]
      simp only
      by_cases e : zs_err a p (k + 1) < (zs_bl a p (k + 1)).2.1
      · exact ⟨k + 1, by omega, c, by rw [if_pos e]⟩
      · exact ⟨s, by omega, h2, by rw [if_neg e]; exact h3⟩
    · rw [if_neg c]
      exact ⟨s, by omega, h2, h3⟩
def zs_own (a : zs_A) (p : Nat) : Nat := (zs_bl a p (2 ^ a.1 0 0)).1.toNatClampNeg
theorem zs_own_ok {a : zs_A} (h : zs_ok a) (p : Nat) : zs_own a p < 2 ^ a.1 0 0 ∧ zs_st a (zs_own a p) = true ∧ (zs_bl a p (2 ^ a.1 0 0)).1 = nI (zs_own a p) := by
  have hp := zn_pow h
  obtain ⟨s, h1, h2, h3⟩ := zs_bl_nat a p (2 ^ a.1 0 0 - 1)
  rw [show 2 ^ a.1 0 0 - 1 + 1 = 2 ^ a.1 0 0 by omega] at h1 h3
  have e : zs_own a p = s := by unfold zs_own; rw [h3, zx_clamp (by omega)]
  rw [e]
  exact ⟨h1, h2, h3⟩
theorem l_power {d : Nat} {w : zm_S} {n k : Nat} (hk : k < 2 ^ 31) : ∀ (m i : Nat), i + m = k → zm_T zd_H d mX8_power (zq (.int (nI (n ^ k))) w) 4 [(0, .int (nI n)), (1, .int (nI k)), (2, .int (nI (n ^ i))), (3, .int (nI i))] [] w := by
  intro m
  induction m with
  | zero =>
    intro i hi
    obtain rfl : i = k := by omega
    exact gX8_power_4 (fun _ => gX8_power_19 (zq_m _ _)) (fun q => absurd (Int32.le_refl _) q)
  | succ m ih =>
    intro i hi
    refine gX8_power_4 (fun q => absurd q (nI_ge (by omega) (by omega))) (fun _ => gX8_power_9 ?_)
    rw [pk_mul, ← Nat.pow_succ, nI_1]
    exact ih (i + 1) (by omega)
theorem k_power {d : Nat} {w : zm_S} {n k : Nat} (hk : k < 2 ^ 31) : zm_C zd_H d mX8_power [.int (nI n), .int (nI k)] w (zq (.int (nI (n ^ k))) w) := by
  refine zm_C.of mtX8_power.1.2.2.2.2.2.2 rfl (Nat.le_of_ble_eq_true rfl) ?_
  exact gX8_power_0 (l_power hk k 0 (by omega))
/-- a lesson -/
def zs_q (a : zs_A) (row k i : Nat) : Nat := row / a.1 0 0 ^ (k - 1 - i) % a.1 0 0
def zs_ls (a : zs_A) (row k o : Nat) : Nat → Nat × Nat
  | 0 => (o, 0)
  | i + 1 => if (zs_ls a row k o i).1.testBit (zs_q a row k i) = false ∧ zs_st a ((zs_ls a row k o i).1 ||| 2 ^ zs_q a row k i) = true then ((zs_ls a row k o i).1 ||| 2 ^ zs_q a row k i, (zs_ls a row k o i).2 + 1) else zs_ls a row k o i
def zs_ln (a : zs_A) (row k : Nat) : Nat → Nat := fb_sm (fun p => if zs_N a p ||| zs_Y a p ≠ 0 then (zs_ls a row k (zs_own a p) k).2 else 0)
theorem zs_q_lt {a : zs_A} (h : zs_ok a) (row k i : Nat) : zs_q a row k i < a.1 0 0 := Nat.mod_lt _ (by have := h.1; omega)
theorem zs_ls_lt {a : zs_A} (h : zs_ok a) {row k o : Nat} (ho : o < 128) : ∀ i, (zs_ls a row k o i).1 < 128 ∧ (zs_ls a row k o i).2 ≤ i
  | 0 => ⟨ho, Nat.le_refl _⟩
  | i + 1 => by
    have ih := zs_ls_lt h ho i (row := row) (k := k)
    have hq := zs_q_lt h row k i
    have hn := h.1
    rw [zs_ls]
    split
    · exact ⟨zy_or_lt ih.1 (zy_lt (by omega)), by simp only; omega⟩
    · exact ⟨ih.1, by omega⟩
/-- the model's row of beginnings -/
def zd_B (a : zs_A) (v : zm_S) : Prop := ∀ p, p < 12 → v.1 21 p = if zs_N a p ||| zs_Y a p ≠ 0 then nI (zs_own a p) else -1
theorem l_learnt2 {d : Nat} {a : zs_A} {v : zm_S} (h : zd_V a v) {row k p c o : Nat} (hk : k ≤ 4) (hrow : row < 2 ^ 30) (ho : o < 128) {Q : Value → zm_S → Prop} (hQ : zm_T zd_H (d + 2) mX8_learnt Q 100 [(0, .ref 0), (1, .int (nI row)), (2, .int (nI k)), (3, .int (nI (c + (zs_ls a row k o k).2))), (4, .int (nI p))] [] v) : ∀ (m i : Nat), i + m = k → zm_T zd_H (d + 2) mX8_learnt Q 24 [(0, .ref 0), (1, .int (nI row)), (2, .int (nI k)), (3, .int (nI (c + (zs_ls a row k o i).2))), (4, .int (nI p)), (5, .int (nI (zs_ls a row k o i).1)), (6, .int (nI i))] [] v := by
  intro m
  have hn := h.1.1.1
  induction m with
  | zero =>
    intro i hi
    obtain rfl : i = k := by omega
    exact gX8_learnt_24 (fun _ => hQ) (fun q => absurd (Int32.le_refl _) q)
  | succ m ih =>
    intro i hi
    have next := ih (i + 1) (by omega)
    have hl := zs_ls_lt h.1.1 (row := row) (k := k) ho i
    have hq := zs_q_lt h.1.1 row k i
    refine gX8_learnt_24 (fun q => absurd q (nI_ge (by omega) (by omega))) (fun _ => ?_)
    refine gX8_learnt_30 (fun q => ?_) (fun _ => ?_)
    · have := congrArg Int32.toInt q
      rw [nI_toInt (by omega), show (-1 : Int32).toInt = -1 by decide] at this
      omega
    refine gX8_learnt_36 (k_n h.1) (zq_i ?_)
    have e1 : (nI k - 1) - nI i = nI (k - 1 - i) := by rw [show nI k - 1 = nI (k - 1) from pk_sub (b := 1) (by omega), pk_sub (by omega)]
    have hpp : 0 < a.1 0 0 ^ (k - 1 - i) := Nat.pow_pos (by omega)
    have hpl : a.1 0 0 ^ (k - 1 - i) ≤ 7 ^ 4 := Nat.le_trans (Nat.pow_le_pow_left hn.2.1 _) (Nat.pow_le_pow_right (by decide) (by omega))
    have h74 : (7 : Nat) ^ 4 = 2401 := by decide
    refine gX8_learnt_41 (by rw [e1]; exact k_power (by omega)) (zq_i ?_)
    refine gX8_learnt_50 (by rw [show (0 : Int32) = nI 0 from rfl, nI_eq (by omega) (by decide)]; omega) (k_n h.1) (zq_i ?_)
    have hdl : row / a.1 0 0 ^ (k - 1 - i) ≤ row := Nat.div_le_self _ _
    have e2 : nI row / nI (a.1 0 0 ^ (k - 1 - i)) = nI (row / a.1 0 0 ^ (k - 1 - i)) := pk_div (by omega) hpp (by omega)
    have e3 : nI (row / a.1 0 0 ^ (k - 1 - i)) - nI (row / a.1 0 0 ^ (k - 1 - i)) / nI (a.1 0 0) * nI (a.1 0 0) = nI (zs_q a row k i) := pk_rem (by omega) (by omega) (by omega)
    rw [e2]
    refine gX8_learnt_55 (by rw [show (0 : Int32) = nI 0 from rfl, nI_eq (by omega) (by decide)]; omega) (by rw [e3]; exact k_isIn (by omega) (by omega)) (zq_i ?_)
    rw [e3]
    rw [zs_ls] at next
    refine gX8_learnt_65 (fun g => gX8_learnt_94 ?_) (fun g => ?_)
    · rw [if_neg (fun z => by rw [zi_n0] at g; rw [z.1] at g; cases g)] at next
      rw [nI_1]
      exact next
    · refine gX8_learnt_68 (by rw [zy_bit _ (by omega), fa_or]; exact k_isState h.1 h.2.2.2 (zy_or_lt hl.1 (zy_lt (by omega)))) (zq_i ?_)
      refine gX8_learnt_79 (fun g2 => gX8_learnt_94 ?_) (fun g2 => gX8_learnt_82 (gX8_learnt_94 ?_))
      · rw [if_neg (fun z => zi_0.mp g2 z.2)] at next
        rw [nI_1]
        exact next
      · rw [if_pos ⟨Bool.not_eq_true _ |>.mp (zi_0.mp g), zi_n0.mp g2⟩] at next
        rw [zy_bit _ (by omega), fa_or, nI_1, nI_1]
        simp only at next
        rw [← Nat.add_assoc] at next
        exact next
theorem l_learnt1 {d : Nat} {a : zs_A} {v : zm_S} (h : zd_V a v) (hB : zd_B a v) {row k : Nat} (hk : k ≤ 4) (hrow : row < 2 ^ 30) : ∀ (m p : Nat), p + m = 12 → zm_T zd_H (d + 2) mX8_learnt (zq (.int (nI (zs_ln a row k 12))) v) 5 [(0, .ref 0), (1, .int (nI row)), (2, .int (nI k)), (3, .int (nI (zs_ln a row k p))), (4, .int (nI p))] [] v := by
  intro m
  have hp := zn_pow h.1.1
  induction m with
  | zero =>
    intro p hpm
    obtain rfl : p = 12 := by omega
    exact gX8_learnt_5 (fun _ => gX8_learnt_106 (zq_m _ _)) (fun q => absurd (by decide) q)
  | succ m ih =>
    intro p hpm
    have next := ih (p + 1) (by omega)
    rw [show zs_ln a row k (p + 1) = zs_ln a row k p + (if zs_N a p ||| zs_Y a p ≠ 0 then (zs_ls a row k (zs_own a p) k).2 else 0) from fb_sm_succ _ _] at next
    refine gX8_learnt_5 (fun q => absurd q (nI_ge (b := 12) (by omega) (by decide))) (fun _ => ?_)
    refine gX8_learnt_12 (vp_in_nI (by omega) (by decide)) ?_
    rw [zx_clamp (by omega), hB p (by omega)]
    by_cases c : zs_N a p ||| zs_Y a p ≠ 0
    · rw [if_pos c] at next ⊢
      have ho := zs_own_ok h.1.1 p
      refine l_learnt2 h hk hrow (Nat.lt_of_lt_of_le ho.1 hp.2) (gX8_learnt_100 ?_) k 0 (by omega)
      rw [nI_1]
      exact next
    · rw [if_neg c] at next ⊢
      refine gX8_learnt_24 (fun _ => gX8_learnt_100 ?_) (fun _ => gX8_learnt_30 (fun _ => gX8_learnt_100 ?_) (fun z => absurd rfl z))
      · rw [nI_1]; exact next
      · rw [nI_1]; exact next
theorem k_learnt {d : Nat} {a : zs_A} {v : zm_S} (h : zd_V a v) (hB : zd_B a v) {row k : Nat} (hk : k ≤ 4) (hrow : row < 2 ^ 30) : zm_C zd_H (d + 2) mX8_learnt [.ref 0, .int (nI row), .int (nI k)] v (zq (.int (nI (zs_ln a row k 12))) v) := by
  refine zm_C.of mtX8_learnt.1.2.2.2.2.2.2 rfl (Nat.le_of_ble_eq_true rfl) ?_
  exact gX8_learnt_0 (l_learnt1 h hB hk hrow 12 0 (by omega))
/-- the best row of lessons, and how much is learnt by it -/
def zs_lf (a : zs_A) (k : Nat) : Nat → Nat × Int32
  | 0 => (0, -1)
  | r + 1 => if (zs_lf a k r).2 < nI (zs_ln a r k 12) then (r, nI (zs_ln a r k 12)) else zs_lf a k r
def zs_les (a : zs_A) (k : Nat) (i : Int32) : Int32 := if i = -1 then (zs_lf a k (a.1 0 0 ^ k)).2 else nI (zs_q a (zs_lf a k (a.1 0 0 ^ k)).1 k i.toNatClampNeg)
theorem zs_lf_le (a : zs_A) (k : Nat) : ∀ r, (zs_lf a k r).1 ≤ r
  | 0 => Nat.le_refl _
  | r + 1 => by
    have := zs_lf_le a k r
    rw [zs_lf]
    split
    · simp only; omega
    · omega
theorem l_les1 {d : Nat} {a : zs_A} {k i : Int32} {Q : Value → zm_S → Prop} (hk : ∀ u, zd_V a u → zd_B a u → zm_T zd_H (d + 7) mX8_lessonsOf Q 42 [(0, .ref 0), (1, .int k), (2, .int i)] [] u) : ∀ (m p : Nat) (v : zm_S), zd_P a v → p + m = 12 → (m = 0 → zd_V a v) → (∀ j, j < p → v.1 21 j = if zs_N a j ||| zs_Y a j ≠ 0 then nI (zs_own a j) else -1) → zm_T zd_H (d + 7) mX8_lessonsOf Q 2 [(0, .ref 0), (1, .int k), (2, .int i), (3, .int (nI p))] [] v := by
  intro m
  induction m with
  | zero =>
    intro p v h hpm hV h1
    obtain rfl : p = 12 := by omega
    exact gX8_lessonsOf_2 (fun _ => hk v (hV rfl) h1) (fun q => absurd (by decide) q)
  | succ m ih =>
    intro p v h hpm hV h1
    refine gX8_lessonsOf_2 (fun q => absurd q (nI_ge (b := 12) (by omega) (by decide))) (fun _ => ?_)
    refine gX8_lessonsOf_8 (k_belongsOf_g h (p := p) (w := 0) (by omega) (by decide)) (zp_i (fun u hu => ?_))
    obtain ⟨hu, h21⟩ := hu
    have ho := zs_own_ok h.1 p
    refine gX8_lessonsOf_14 (k_isSome hu.1 hu.2.1 (by omega)) (zq_i ?_)
    have fin : ∀ z, z = (if zs_N a p ||| zs_Y a p ≠ 0 then nI (zs_own a p) else -1) → zm_T zd_H (d + 7) mX8_lessonsOf Q 35 [(0, .ref 0), (1, .int k), (2, .int i), (3, .int (nI p))] [.int z, .int (nI p), .ref 21] u := by
      intro z hz
      refine gX8_lessonsOf_35 (vp_in_nI (by omega) (by decide)) ?_
      rw [zx_clamp (by omega), nI_1]
      refine ih (p + 1) _ (hu.pa (by omega) _).1 (by omega) (fun _ => hu.pa (by omega) _) (fun j hj => ?_)
      rw [zm_pa_at]
      by_cases e : j = p
      · rw [e, pk_us, hz]
      · rw [pk_un e, h21 21 (by decide)]
        exact h1 j (by omega)
    refine gX8_lessonsOf_26 (fun g => gX8_lessonsOf_34 (fin _ ?_)) (fun g => gX8_lessonsOf_29 (fin _ ?_))
    · rw [if_neg (zi_0.mp g)]
    · rw [if_pos (zi_n0.mp g), zs_blw, if_pos rfl]
      exact ho.2.2
theorem l_les2 {d : Nat} {a : zs_A} {v : zm_S} (h : zd_V a v) (hB : zd_B a v) {k : Nat} (hk : k ≤ 4) {i : Int32} {Q : Value → zm_S → Prop} (hQ : zm_T zd_H (d + 3) mX8_lessonsOf Q 108 [(0, .ref 0), (1, .int (nI k)), (2, .int i), (3, .int (nI (zs_lf a k (a.1 0 0 ^ k)).1)), (4, .int (zs_lf a k (a.1 0 0 ^ k)).2)] [] v) : ∀ (m r : Nat), r + m = a.1 0 0 ^ k → zm_T zd_H (d + 3) mX8_lessonsOf Q 50 [(0, .ref 0), (1, .int (nI k)), (2, .int i), (3, .int (nI (zs_lf a k r).1)), (4, .int (zs_lf a k r).2), (5, .int (nI r))] [] v := by
  have hn := h.1.1.1
  have hpl : a.1 0 0 ^ k ≤ 7 ^ 4 := Nat.le_trans (Nat.pow_le_pow_left hn.2.1 _) (Nat.pow_le_pow_right (by decide) hk)
  have h74 : (7 : Nat) ^ 4 = 2401 := by decide
  intro m
  induction m with
  | zero =>
    intro r hr
    obtain rfl : r = a.1 0 0 ^ k := by omega
    refine gX8_lessonsOf_50 (k_n h.1) (zq_i ?_)
    refine gX8_lessonsOf_56 (k_power (by omega)) (zq_i ?_)
    exact gX8_lessonsOf_60 (fun _ => hQ) (fun q => absurd (Int32.le_refl _) q)
  | succ m ih =>
    intro r hr
    have next := ih (r + 1) (by omega)
    rw [zs_lf] at next
    refine gX8_lessonsOf_50 (k_n h.1) (zq_i ?_)
    refine gX8_lessonsOf_56 (k_power (by omega)) (zq_i ?_)
    refine gX8_lessonsOf_60 (fun q => absurd q (nI_ge (by omega) (by omega))) (fun _ => ?_)
    refine gX8_lessonsOf_63 (k_learnt h hB hk (by omega)) (zq_i ?_)
    refine gX8_lessonsOf_70 (fun g => gX8_lessonsOf_84 (gX8_lessonsOf_85 (fun _ => gX8_lessonsOf_98 (gX8_lessonsOf_100 ?_)) (fun z => absurd g z))) (fun g => gX8_lessonsOf_79 (gX8_lessonsOf_85 (fun z => absurd z g) (fun _ => gX8_lessonsOf_93 (gX8_lessonsOf_100 ?_))))
    · rw [if_neg (Int32.not_lt.mpr g)] at next
      rw [nI_1]
      exact next
    · rw [if_pos (Int32.not_le.mp g)] at next
      rw [nI_1]
      exact next
theorem k_lessonsOf {d : Nat} {a : zs_A} {v : zm_S} (h : zd_P a v) {k : Nat} (hk : k ≤ 4) {i : Int32} (hi : i = -1 ∨ ∃ j, j < k ∧ i = nI j) : zm_C zd_H (d + 7) mX8_lessonsOf [.ref 0, .int (nI k), .int i] v (zp (.int (zs_les a k i)) (zd_V a)) := by
  refine zm_C.of mtX8_lessonsOf.1.2.2.2.2.2.2 rfl (Nat.le_of_ble_eq_true rfl) ?_
  have hn := h.1.1
  refine gX8_lessonsOf_0 ?_
  refine l_les1 (fun u hu hB => gX8_lessonsOf_42 ?_) 12 0 v h (by omega) (fun q => by omega) (fun j hj => absurd hj (Nat.not_lt_zero j))
  refine l_les2 hu hB hk ?_ (a.1 0 0 ^ k) 0 (by omega)
  have hlf := zs_lf_le a k (a.1 0 0 ^ k)
  have hpl : a.1 0 0 ^ k ≤ 7 ^ 4 := Nat.le_trans (Nat.pow_le_pow_left hn.2.1 _) (Nat.pow_le_pow_right (by decide) hk)
  have h74 : (7 : Nat) ^ 4 = 2401 := by decide
  refine gX8_lessonsOf_108 (fun g => ?_) (fun g => gX8_lessonsOf_113 (by rw [zs_les, if_pos g]; exact ⟨rfl, hu⟩))
  rcases hi with hi | ⟨j, hj, rfl⟩
  · exact absurd hi g
  · refine gX8_lessonsOf_118 (k_n hu.1) (zq_i ?_)
    have e1 : (nI k - 1) - nI j = nI (k - 1 - j) := by rw [show nI k - 1 = nI (k - 1) from pk_sub (b := 1) (by omega), pk_sub (by omega)]
    have hpp : 0 < a.1 0 0 ^ (k - 1 - j) := Nat.pow_pos (by omega)
    have hpl2 : a.1 0 0 ^ (k - 1 - j) ≤ 7 ^ 4 := Nat.le_trans (Nat.pow_le_pow_left hn.2.1 _) (Nat.pow_le_pow_right (by decide) (by omega))
    refine gX8_lessonsOf_123 (by rw [e1]; exact k_power (by omega)) (zq_i ?_)
    refine gX8_lessonsOf_131 (by rw [show (0 : Int32) = nI 0 from rfl, nI_eq (by omega) (by decide)]; omega) (k_n hu.1) (zq_i ?_)
    refine gX8_lessonsOf_136 (by rw [show (0 : Int32) = nI 0 from rfl, nI_eq (by omega) (by decide)]; omega) ?_
    have hdl : (zs_lf a k (a.1 0 0 ^ k)).1 / a.1 0 0 ^ (k - 1 - j) ≤ (zs_lf a k (a.1 0 0 ^ k)).1 := Nat.div_le_self _ _
    have e2 : nI (zs_lf a k (a.1 0 0 ^ k)).1 / nI (a.1 0 0 ^ (k - 1 - j)) = nI ((zs_lf a k (a.1 0 0 ^ k)).1 / a.1 0 0 ^ (k - 1 - j)) := pk_div (by omega) hpp (by omega)
    have e3 : nI ((zs_lf a k (a.1 0 0 ^ k)).1 / a.1 0 0 ^ (k - 1 - j)) - nI ((zs_lf a k (a.1 0 0 ^ k)).1 / a.1 0 0 ^ (k - 1 - j)) / nI (a.1 0 0) * nI (a.1 0 0) = nI (zs_q a (zs_lf a k (a.1 0 0 ^ k)).1 k j) := pk_rem (by omega) (by omega) (by omega)
    rw [e2, e3, zs_les, if_neg g, zx_clamp (by omega)]
    exact ⟨rfl, hu⟩
theorem zx_le4 (s : Int32) : s ≤ 4 ↔ s < 5 := by rw [fa_le, fa_lt]; show s.toInt ≤ 4 ↔ s.toInt < 5; omega
def zs_lessons (a : zs_A) (k i : Int32) : Int32 := if (0 ≤ k ∧ k < 5) ∧ -1 ≤ i ∧ i < k then zs_les a k.toNatClampNeg i else -2
theorem zx_m1le {i : Int32} {k : Nat} (hk : k ≤ 4) : (-1 ≤ i ∧ i ≤ nI k - 1) ↔ (-1 ≤ i ∧ i < nI k) := by
  have e : (nI k - 1).toInt = (k : Int) - 1 := pk_sub_toInt (a := k) (b := 1) (by omega) (by omega)
  rw [fa_le _ (nI k - 1), fa_lt i, e, nI_toInt (by omega)]
  constructor
  · rintro ⟨h1, h2⟩; exact ⟨h1, by omega⟩
  · rintro ⟨h1, h2⟩; exact ⟨h1, by omega⟩
theorem m_lessons {d : Nat} {a : zs_A} {v : zm_S} (h : zd_P a v) (k i : Int32) : zm_C zd_H (d + 8) mX8_lessons [.ref 0, .int k, .int i] v (zp (.int (zs_lessons a k i)) (zd_P a)) := by
  refine zm_C.of mtX8_lessons.1.2.2.2.2.2.2 rfl (Nat.le_of_ble_eq_true rfl) ?_
  have bad : ∀ (hb : ¬ ((0 ≤ k ∧ k < 5) ∧ -1 ≤ i ∧ i < k)), zm_T zd_H (d + 8) mX8_lessons (zp (.int (zs_lessons a k i)) (zd_P a)) 36 [] [] v := fun hb => gX8_lessons_36 (by rw [zs_lessons, if_neg hb]; exact ⟨rfl, h⟩)
  refine gX8_lessons_0 (k_inI k 0 4 rfl rfl) (zq_i ?_)
  rw [zi_cong (show (0 ≤ k ∧ k ≤ 4) ↔ (0 ≤ k ∧ k < 5) by rw [zx_le4])]
  refine gX8_lessons_9 (fun g => bad (fun c => zi_0.mp g c.1)) (fun g1 => ?_)
  obtain ⟨k, hk, rfl⟩ := zx_of (n := 5) (zi_n0.mp g1) (by decide)
  refine gX8_lessons_12 (k_inI i (-1) (nI k - 1) rfl rfl) (zq_i ?_)
  rw [zi_cong (zx_m1le (by omega))]
  refine gX8_lessons_24 (fun g => bad (fun c => zi_0.mp g c.2)) (fun g2 => ?_)
  have hG := And.intro (zi_n0.mp g1) (zi_n0.mp g2)
  have hi : i = -1 ∨ ∃ j, j < k ∧ i = nI j := by
    by_cases c : 0 ≤ i
    · exact Or.inr (zx_of ⟨c, hG.2.2⟩ (by omega))
    · refine Or.inl ?_
      have h1 := hG.2.1
      rw [fa_le] at h1 c
      rw [fa_eq]
      have e1 : (-1 : Int32).toInt = -1 := by decide
      have e0 : (0 : Int32).toInt = 0 := by decide
      omega
  refine gX8_lessons_27 (k_lessonsOf h (by omega) hi) (zp_i (fun u hu => gX8_lessons_33 ?_))
  rw [zs_lessons, if_pos hG, zx_clamp (by omega)]
  exact ⟨rfl, hu.1⟩
