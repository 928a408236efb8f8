/-! ===== teaching ===== -/
/-- what holds at a node: the first i lessons are those of row r; all rows before R are judged -/
def zl_I (a : zs_A) (w0 : zm_S) (k i r R : Nat) (u : zm_S) : Prop := zl_F w0 u ∧ u.1 30 3 = nI (zs_with a 12) ∧ u.1 30 4 = nI k ∧ (∀ j, j < i → u.1 32 j = nI (zs_q a r k j)) ∧ (∀ j, j ≤ i → zl_H a r k u j) ∧ zl_M a k R u
/-- and what a node leaves as it was -/
def zl_K (i : Nat) (u z : zm_S) : Prop := (∀ j, j < i → z.1 32 j = u.1 32 j) ∧ ∀ j, j ≤ i → z.1 (34 + j) = u.1 (34 + j)
theorem k_judge {d : Nat} {a : zs_A} {w0 : zm_S} (ha : zs_ok a) {k P : Nat} (hk : k ≤ 4) {u : zm_S} (h : zl_I a w0 k k P P u) : zm_C zc_H d mX3_judge [.ref 30, .int (nI (zl_L a P k k 12))] u (zp .null (fun z => zl_I a w0 k k P (P + 1) z ∧ zl_K k u z)) := by
  refine zm_C.of mtX3_judge.1.2.2.2.2.2.2 rfl (Nat.le_of_ble_eq_true rfl) ?_
  obtain ⟨hF, h3, h4, h32, hH, hM1, hM2⟩ := h
  have e : zl_L a P k k 12 = zs_ln a P k 12 := rfl
  refine gX3_judge_0 (fun g => gX3_judge_30 ?_) (fun g => gX3_judge_8 (by decide) (by decide) ?_ ?_ ?_ (gX3_judge_30 ?_))
  · rw [hM1, e] at g
    have es : zs_lf a k (P + 1) = zs_lf a k P := by rw [zs_lf, if_neg (Int32.not_lt.mpr g)]
    refine ⟨rfl, ⟨hF, h3, h4, h32, hH, ?_⟩, fun _ _ => rfl, fun _ _ => rfl⟩
    unfold zl_M
    rw [es]
    refine ⟨hM1, fun _ => ?_⟩
    by_cases hP : 0 < P
    · exact hM2 hP
    · exfalso
      obtain rfl : P = 0 := by omega
      rw [show (zs_lf a k 0).2 = -1 from rfl, fa_le] at g
      have hs := zl_L_small a (r := 0) (k := k) ha hk
      rw [e] at hs
      rw [nI_toInt (by omega), show (-1 : Int32).toInt = -1 from rfl] at g
      omega
  · rw [h4]; exact Int32.not_lt.mpr ((zx_in (n := 5) (by decide)).mp (vp_in_nI (by omega) (by decide))).1
  · rw [h4, zx_clamp (by omega)]; show 0 + k ≤ 4; omega
  · rw [h4, zx_clamp (by omega)]; show 0 + k ≤ 4; omega
  · rw [hM1, e] at g
    have es : zs_lf a k (P + 1) = (P, nI (zs_ln a P k 12)) := by rw [zs_lf, if_pos (Int32.not_le.mp g)]
    refine ⟨rfl, ⟨⟨fun j hj => ?_, hF.2⟩, ?_, ?_, fun j hj => ?_, fun j hj p hp hs => ?_, ?_, fun _ i hi => ?_⟩, fun j hj => ?_, fun j hj => ?_⟩
    · rw [zm_pa_ne (by omega), zm_pa_ne (by omega)]; exact hF.1 j hj
    · rw [zm_pa_ne (by decide), zm_pa_at, pk_un (by decide)]; exact h3
    · rw [zm_pa_ne (by decide), zm_pa_at, pk_un (by decide)]; exact h4
    · rw [zm_pa_ne (by decide), zm_pa_ne (by decide)]; exact h32 j hj
    · rw [zm_pa_ne (by omega), zm_pa_ne (by omega)]; exact hH j hj p hp hs
    · rw [zm_pa_ne (by decide), zm_pa_at, pk_us, es, e]
    · rw [zm_pa_at, es, h4, zx_clamp (by omega), zm_pa_ne (by decide), va_cpy, if_pos ⟨Nat.zero_le _, by show i < 0 + k; omega⟩]
      show u.1 32 (0 + (i - 0)) = _
      rw [Nat.zero_add, Nat.sub_zero]
      exact h32 i hi
    · rw [zm_pa_ne (by decide), zm_pa_ne (by decide)]
    · rw [zm_pa_ne (by omega), zm_pa_ne (by omega)]
theorem zl_mono {x y : Nat} (hy : y < 2 ^ 31) (h : x ≤ y) : nI x ≤ nI y := (nI_leI (by omega) hy).mpr h
theorem k_teach {a : zs_A} {w0 : zm_S} (hQ : zc_Q a w0) {k : Nat} (hk : k ≤ 4) : ∀ (m i P d : Nat) (u : zm_S), i + m = k → P < a.1 0 0 ^ i → zl_I a w0 k i (P * a.1 0 0 ^ m) (P * a.1 0 0 ^ m) u → zm_C zc_H (d + m + 1) mX3_teach [.ref 30, .int (nI i), .int (nI (zl_L a (P * a.1 0 0 ^ m) k i 12)), .ref 23] u (zp .null (fun z => zl_I a w0 k i (P * a.1 0 0 ^ m) ((P + 1) * a.1 0 0 ^ m) z ∧ zl_K i u z)) := by
  have ha := hQ.1.1.1
  have hn := ha.1
  have hw12 := zs_with_le a 12
  intro m
  induction m with
  | zero =>
    intro i P d u hi hP h
    refine zm_C.of mtX3_teach.1.2.2.2.2.2.2 rfl (Nat.le_of_ble_eq_true rfl) ?_
    obtain rfl : i = k := by omega
    rw [Nat.pow_zero, Nat.mul_one] at h ⊢
    refine gX3_teach_0 (fun g => absurd g ?_) (fun _ => ?_)
    · rw [h.2.2.1]; exact Int32.not_lt.mpr (Int32.le_refl _)
    · refine gX3_teach_8 (k_judge (d := d + 0) ha hk h) (zp_v (fun z hz => gX3_teach_13 ⟨rfl, ?_⟩))
      rw [Nat.mul_one]
      exact hz
  | succ m ih =>
    intro i P d u hi hP h
    have hpm : 0 < a.1 0 0 ^ m := Nat.pow_pos (by omega)
    have hpow : a.1 0 0 ^ (m + 1) = a.1 0 0 * a.1 0 0 ^ m := by rw [Nat.pow_succ, Nat.mul_comm]
    have hchild : ∀ q, (P * a.1 0 0 + q) * a.1 0 0 ^ m = P * a.1 0 0 ^ (m + 1) + q * a.1 0 0 ^ m := fun q => by rw [hpow, Nat.add_mul, Nat.mul_assoc]
    refine zm_C.of mtX3_teach.1.2.2.2.2.2.2 rfl (Nat.le_of_ble_eq_true rfl) ?_
    refine gX3_teach_0 (fun _ => gX3_teach_14 ?_) (fun g => absurd ?_ g)
    rotate_left
    · rw [h.2.2.1, nI_ltI (by omega) (by omega)]; omega
    have hsm := zl_L_small a (r := P * a.1 0 0 ^ (m + 1)) (k := k) ha (i := i) (by omega)
    have loop : ∀ (t q : Nat) (v : zm_S), q + t = a.1 0 0 → zl_I a w0 k i (P * a.1 0 0 ^ (m + 1)) ((P * a.1 0 0 + q) * a.1 0 0 ^ m) v → zl_K i u v → zm_T zc_H (d + (m + 1) + 1) mX3_teach (zp .null (fun z => zl_I a w0 k i (P * a.1 0 0 ^ (m + 1)) ((P + 1) * a.1 0 0 ^ (m + 1)) z ∧ zl_K i u z)) 17 [(0, .ref 30), (1, .int (nI i)), (2, .int (nI (zl_L a (P * a.1 0 0 ^ (m + 1)) k i 12))), (3, .ref 23), (4, .int (nI q))] [] v := by
      intro t
      induction t with
      | zero =>
        intro q v hq hv hK
        obtain rfl : q = a.1 0 0 := by omega
        refine gX3_teach_17 (fun _ => gX3_teach_79 ⟨rfl, ?_, hK⟩) (fun z => absurd ?_ z)
        · have e : (P + 1) * a.1 0 0 ^ (m + 1) = (P * a.1 0 0 + a.1 0 0) * a.1 0 0 ^ m := by rw [hpow, ← Nat.mul_assoc, Nat.add_mul P 1, Nat.one_mul]
          rw [e]
          exact hv
        · rw [hv.1.1 23 (by omega), hQ.2.2.2.1]; exact Int32.le_refl _
      | succ t iht =>
        intro q v hq hv hK
        obtain ⟨vF, v3, v4, v32, vH, vM1, vM2⟩ := hv
        refine gX3_teach_17 (fun z => absurd z ?_) (fun _ => ?_)
        · rw [vF.1 23 (by omega), hQ.2.2.2.1]; exact nI_ge (by omega) (by omega)
        have hmul : (m + 1) * zs_with a 12 ≤ 4 * 12 := Nat.mul_le_mul (by omega) hw12
        have eb : nI (zl_L a (P * a.1 0 0 ^ (m + 1)) k i 12) + ((v.1 30 4 - nI i) * v.1 30 3) = nI (zl_L a (P * a.1 0 0 ^ (m + 1)) k i 12 + (m + 1) * zs_with a 12) := by
          rw [v3, v4, pk_sub (by omega), pk_mul, nI_add, show k - i = m + 1 by omega]
        refine gX3_teach_26 (fun _ => ?_) (fun g => gX3_teach_46 ?_)
        · -- the child
          have hqr : zs_q a ((P * a.1 0 0 + q) * a.1 0 0 ^ m) k i = q := by
            have := zl_qat ha (P := P) (q := q) (i := i) (m := m) (by omega)
            rw [show i + 1 + m = k by omega] at this
            exact this
          have hsame : ∀ j, j < i → zs_q a ((P * a.1 0 0 + q) * a.1 0 0 ^ m) k j = zs_q a (P * a.1 0 0 ^ (m + 1)) k j := fun j hj => by
            rw [hchild]
            refine zl_qeq ha (m := m + 1) ?_ (by omega)
            rw [hpow]
            exact Nat.mul_lt_mul_of_pos_right (by omega) hpm
          generalize hr' : (P * a.1 0 0 + q) * a.1 0 0 ^ m = r' at hqr hsame vM1 vM2
          have c32 : ∀ j, j < i + 1 → (zm_pi v 32 i (nI q)).1 32 j = nI (zs_q a r' k j) := fun j hj => by
            rw [zm_pa_at]
            by_cases z : j = i
            · rw [z, pk_us, hqr]
            · rw [pk_un z, v32 j (by omega), hsame j (by omega)]
          have cF : zl_F w0 (zm_pi v 32 i (nI q)) := ⟨fun j hj => by rw [zm_pa_ne (by omega)]; exact vF.1 j hj, vF.2⟩
          have cH : ∀ j, j ≤ i → zl_H a r' k (zm_pi v 32 i (nI q)) j := fun j hj p hp hs => by
            rw [zm_pa_ne (by omega), zl_ls_cong (r' := P * a.1 0 0 ^ (m + 1)) (fun j' hj' => hsame j' (by omega))]
            exact vH j hj p hp hs
          have eL : zl_L a (P * a.1 0 0 ^ (m + 1)) k i 12 = zl_L a r' k i 12 := (zl_L_cong hsame 12).symm
          have hC : zm_C zc_H (d + (m + 1)) mX3_lesson [.ref 30, .int (nI i), .int (nI q), .ref 23] (zm_pi v 32 i (nI q)) (fun rr z => zm_K (34 + i + 1) (zm_pi v 32 i (nI q)) z ∧ zl_H a r' k z (i + 1) ∧ ∃ c, rr = .int (nI c) ∧ zl_L a r' k i 12 + c = zl_L a r' k (i + 1) 12) := by
            refine zm_C.of mtX3_lesson.1.2.2.2.2.2.2 rfl (Nat.le_of_ble_eq_true rfl) ?_
            refine gX3_lesson_0 ?_
            rw [zy_bit q (by omega)]
            have e0 : zl_L a r' k i 0 + 0 = zl_L a r' k (i + 1) 0 := rfl
            exact l_lesson hQ (by omega) (by omega) hqr cF (cH i (Nat.le_refl _)) (by rw [zm_pa_ne (by decide)]; exact v3) 0 12 0 _ rfl ⟨fun _ _ => rfl, rfl⟩ (fun p' hp' => absurd hp' (Nat.not_lt_zero p')) 0 e0
          refine gX3_teach_47 (vp_in_nI (by omega) (by decide)) (by rw [zx_clamp (by omega)]; exact hC) (fun rr z hz => ?_)
          obtain ⟨zK, zH, c, hc1, hc2⟩ := hz
          cases hc1
          rw [eL, nI_1]
          have zI : zl_I a w0 k (i + 1) r' r' z := by
            refine ⟨⟨fun j hj => by rw [zK.1 j (by omega)]; exact cF.1 j hj, by rw [zK.2]; exact cF.2⟩, by rw [zK.1 30 (by omega), zm_pa_ne (by decide)]; exact v3, by rw [zK.1 30 (by omega), zm_pa_ne (by decide)]; exact v4, fun j hj => by rw [zK.1 32 (by omega)]; exact c32 j hj, fun j hj => ?_, ?_⟩
            · by_cases z2 : j = i + 1
              · rw [z2]; exact zH
              · intro p hp hs
                rw [zK.1 (34 + j) (by omega)]
                exact cH j (by omega) p hp hs
            · exact ⟨by rw [zK.1 30 (by omega), zm_pa_ne (by decide)]; exact vM1, fun h0 j hj => by rw [zK.1 33 (by omega), zm_pa_ne (by decide)]; exact vM2 h0 j hj⟩
          have hPq : P * a.1 0 0 + q < a.1 0 0 ^ (i + 1) := by
            rw [Nat.pow_succ]
            have h1 : (P + 1) * a.1 0 0 ≤ a.1 0 0 ^ i * a.1 0 0 := Nat.mul_le_mul_right _ hP
            rw [Nat.add_mul, Nat.one_mul] at h1
            omega
          have hCt := ih (i + 1) (P * a.1 0 0 + q) d z (by omega) hPq (by rw [hr']; exact zI)
          rw [hr'] at hCt
          refine gX3_teach_68 (by rw [nI_add, hc2]; exact hCt) (zp_v (fun y hy => gX3_teach_73 ?_))
          obtain ⟨⟨yF, y3, y4, y32, yH, yM⟩, yK⟩ := hy
          rw [nI_1, ← eL]
          have k32 : ∀ j, j < i → y.1 32 j = v.1 32 j := fun j hj => by rw [yK.1 j (by omega), zK.1 32 (by omega), zm_pa_at, pk_un (by omega)]
          have k34 : ∀ j, j ≤ i → y.1 (34 + j) = v.1 (34 + j) := fun j hj => by rw [yK.2 j (by omega), zK.1 (34 + j) (by omega), zm_pa_ne (by omega)]
          refine iht (q + 1) y (by omega) ⟨yF, y3, y4, fun j hj => by rw [k32 j hj]; exact v32 j hj, fun j hj p hp hs => by rw [k34 j hj]; exact vH j hj p hp hs, yM⟩ ⟨fun j hj => (k32 j hj).trans (hK.1 j hj), fun j hj => (k34 j hj).trans (hK.2 j hj)⟩
        · -- no row that is left can be better
          rw [eb, vM1] at g
          have hend : (P + 1) * a.1 0 0 ^ (m + 1) = (P * a.1 0 0 + q) * a.1 0 0 ^ m + (a.1 0 0 - q) * a.1 0 0 ^ m := by
            rw [hpow, ← Nat.add_mul, show P * a.1 0 0 + q + (a.1 0 0 - q) = (P + 1) * a.1 0 0 by rw [Nat.add_mul]; omega, Nat.mul_assoc]
          have hskip : zs_lf a k ((P + 1) * a.1 0 0 ^ (m + 1)) = zs_lf a k ((P * a.1 0 0 + q) * a.1 0 0 ^ m) := by
            rw [hend]
            refine zs_lf_skip _ (fun r h1 h2 => ?_)
            rw [← hend] at h2
            have hr : r = P * a.1 0 0 ^ (m + 1) + (r - P * a.1 0 0 ^ (m + 1)) := by
              have := hchild q
              omega
            have ht : r - P * a.1 0 0 ^ (m + 1) < a.1 0 0 ^ (m + 1) := by
              rw [Nat.add_mul, Nat.one_mul] at h2
              have := hchild q
              omega
            have hsame : ∀ j, j < i → zs_q a r k j = zs_q a (P * a.1 0 0 ^ (m + 1)) k j := fun j hj => by
              rw [hr]; exact zl_qeq ha ht (by omega)
            have hle := zl_L_le a r k i (m + 1) 12
            rw [show i + (m + 1) = k by omega, zl_L_cong hsame 12] at hle
            have hln : zl_L a r k k 12 = zs_ln a r k 12 := rfl
            rw [hln] at hle
            rw [Int32.not_lt]
            exact Int32.le_trans (zl_mono (by omega) hle) (Int32.not_lt.mp g)
          refine ⟨rfl, ⟨vF, v3, v4, v32, vH, ?_⟩, hK⟩
          unfold zl_M
          rw [hskip]
          refine ⟨vM1, fun _ => ?_⟩
          by_cases h0 : 0 < (P * a.1 0 0 + q) * a.1 0 0 ^ m
          · exact vM2 h0
          · exfalso
            rw [show (P * a.1 0 0 + q) * a.1 0 0 ^ m = 0 by omega, show (zs_lf a k 0).2 = -1 from rfl, Int32.not_lt, fa_le, nI_toInt (by omega), show (-1 : Int32).toInt = -1 from rfl] at g
            omega
    refine loop (a.1 0 0) 0 u (by omega) ?_ ⟨fun _ _ => rfl, fun _ _ => rfl⟩
    rw [hchild 0, Nat.zero_mul, Nat.add_zero]
    exact h
theorem l_admit {d : Nat} {a : zs_A} {w0 : zm_S} (hQ : zc_Q a w0) {x y : Int32} {Q : Value → zm_S → Prop} (hk : ∀ u, zl_F w0 u → u.1 30 3 = nI (zs_with a 12) → (∀ p, p < 12 → zs_N a p ||| zs_Y a p ≠ 0 → u.1 34 (zs_with a p) = nI (zs_own a p)) → zm_T zc_H (d + 3) mX7_lessons Q 69 [(0, .ref 0), (1, .int x), (2, .int y)] [] u) : ∀ (m p : Nat) (u : zm_S), p + m = 12 → zl_F w0 u → u.1 30 3 = nI (zs_with a p) → (∀ p', p' < p → zs_N a p' ||| zs_Y a p' ≠ 0 → u.1 34 (zs_with a p') = nI (zs_own a p')) → zm_T zc_H (d + 3) mX7_lessons Q 34 [(0, .ref 0), (1, .int x), (2, .int y), (3, .int (nI p))] [] u := by
  intro m
  have ha := hQ.1.1.1
  induction m with
  | zero =>
    intro p u hp hF h3 h34
    obtain rfl : p = 12 := by omega
    exact gX7_lessons_34 (fun _ => hk u hF h3 h34) (fun q => absurd (by decide) q)
  | succ m ih =>
    intro p u hp hF h3 h34
    have hu : zc_Q a u := hQ.keep (fun k hk => hF.1 k (by omega)) hF.2
    have hz := zpc_le (zs_Y a p ||| zs_N a p)
    have hwp := zs_with_le a p
    refine gX7_lessons_34 (fun q => absurd q (nI_ge (b := 12) (by omega) (by omega))) (fun _ => ?_)
    refine gX7_lessons_40 (k_given hu.1.1 (by omega)) (zq_i ?_)
    refine gX7_lessons_48 (fun g => gX7_lessons_63 ?_) (fun g => ?_)
    · have g2 := (nI_leI (b := 0) (by omega) (by decide)).mp g
      have hs := (zs_pos ha p).mp (by omega)
      rw [nI_1]
      exact ih (p + 1) u (by omega) hF (by rw [zs_with_1, if_neg hs]; exact h3) (fun p' hp' hs' => by
        by_cases z : p' = p
        · subst z; exact absurd hs' hs
        · exact h34 p' (by omega) hs')
    · have g2 : ¬ zpc (zs_Y a p ||| zs_N a p) ≤ 0 := fun q => g ((nI_leI (b := 0) (by omega) (by decide)).mpr q)
      have hs : zs_N a p ||| zs_Y a p ≠ 0 := by
        by_cases c : zs_N a p ||| zs_Y a p ≠ 0
        · exact c
        · exact absurd ((zs_pos ha p).mpr c) (by omega)
      refine gX7_lessons_51 (k_stateOf hu (by omega)) (zq_i ?_)
      have hC : zm_C zc_H (d + 2) mX3_admit [.ref 30, .int (nI (zs_own a p))] u (zq .null (zm_pi (zm_pi u 34 (zs_with a p) (nI (zs_own a p))) 30 3 (nI (zs_with a p + 1)))) := by
        refine zm_C.of mtX3_admit.1.2.2.2.2.2.2 rfl (Nat.le_of_ble_eq_true rfl) ?_
        refine gX3_admit_0 (fun q => absurd q (by rw [h3]; exact nI_ge (b := 12) (by omega) (by omega))) (fun _ => ?_)
        refine gX3_admit_9 (vp_in_nI (n := 0) (by decide) (by decide)) (zl_row (i := 0) (by decide)) (by rw [h3]; exact vp_in_nI (by omega) (by decide)) (gX3_admit_31 ?_)
        rw [zm_pa_ne (by decide), h3, zx_clamp (by omega), nI_1]
        exact zq_m _ _
      refine gX7_lessons_60 hC (zq_v (gX7_lessons_63 ?_))
      rw [nI_1]
      refine ih (p + 1) _ (by omega) ⟨fun j hj => by rw [zm_pa_ne (by omega), zm_pa_ne (by omega)]; exact hF.1 j hj, hF.2⟩ (by rw [zm_pa_at, pk_us, zs_with_1, if_pos hs]) (fun p' hp' hs' => ?_)
      rw [zm_pa_ne (by decide), zm_pa_at]
      by_cases z : p' = p
      · subst z; rw [pk_us]
      · have := zs_with_lt (n := p) (k := p') (by omega) hs'
        rw [pk_un (by omega)]
        exact h34 p' (by omega) hs'
theorem c_lessons {d : Nat} {a : zs_A} {w : zm_S} (h : zc_P a w) (k i : Int32) : zm_C zc_H (d + 8) mX7_lessons [.ref 0, .int k, .int i] w (zp (.int (zs_lessons a k i)) (zc_P a)) := by
  refine zm_C.of mtX7_lessons.1.2.2.2.2.2.2 rfl (Nat.le_of_ble_eq_true rfl) ?_
  have ha := h.1.1.1
  have hn := ha.1
  have bad : ∀ (hb : ¬ ((0 ≤ k ∧ k < 5) ∧ -1 ≤ i ∧ i < k)), zm_T zc_H (d + 8) mX7_lessons (zp (.int (zs_lessons a k i)) (zc_P a)) 18 [] [] w := fun hb => gX7_lessons_18 (by rw [zs_lessons, if_neg hb]; exact ⟨rfl, h⟩)
  refine gX7_lessons_0 (k_within _ _) (zq_i ?_)
  refine gX7_lessons_5 (fun g => bad (fun c => zi_0.mp g c.1)) (fun g1 => ?_)
  refine gX7_lessons_8 (fun g => bad (fun c => absurd c.2.1 (Int32.not_le.mpr g))) (fun g2 => ?_)
  refine gX7_lessons_13 (fun g3 => ?_) (fun g => bad (fun c => g c.2.2))
  have hG : (0 ≤ k ∧ k < 5) ∧ -1 ≤ i ∧ i < k := ⟨zi_n0.mp g1, Int32.not_lt.mp g2, g3⟩
  obtain ⟨k, hk, rfl⟩ := zx_of (n := 5) hG.1 (by decide)
  rw [zs_lessons, if_pos hG, zx_clamp (by omega)]
  refine gX7_lessons_21 (k_findStates h) (zp_v (fun u hu => ?_))
  obtain ⟨hQ, -, -⟩ := hu
  have hCb : zm_C zc_H (d + 7) mX3_begin [.ref 30] u (zq .null (zm_pi u 30 3 0)) := by
    refine zm_C.of mtX3_begin.1.2.2.2.2.2.2 rfl (Nat.le_of_ble_eq_true rfl) ?_
    exact gX3_begin_0 (zq_m _ _)
  refine gX7_lessons_25 hCb (zq_v (gX7_lessons_32 ?_))
  refine l_admit (d := d + 5) hQ (fun z zF z3 z34 => ?_) 12 0 _ rfl ⟨fun j hj => zm_pa_ne (by omega), rfl⟩ (by rw [zm_pa_at, pk_us]; rfl) (fun p' hp' => absurd hp' (Nat.not_lt_zero p'))
  have hpk : 0 < a.1 0 0 ^ k := Nat.pow_pos (by omega)
  have hCc : zm_C zc_H (d + 7) mX3_choose [.ref 30, .int (nI k), .ref 23] z (zp .null (fun y => zl_I a u k 0 (0 * a.1 0 0 ^ k) ((0 + 1) * a.1 0 0 ^ k) y)) := by
    refine zm_C.of mtX3_choose.1.2.2.2.2.2.2 rfl (Nat.le_of_ble_eq_true rfl) ?_
    have hL0 : zl_L a (0 * a.1 0 0 ^ k) k 0 12 = 0 := by
      have : ∀ m, zl_L a (0 * a.1 0 0 ^ k) k 0 m = 0 := by
        intro m
        unfold zl_L
        induction m with
        | zero => rfl
        | succ m ih => rw [fb_sm_succ, ih]; simp [zs_ls]
      exact this 12
    have hT := k_teach hQ (k := k) (by omega) k 0 0 (d + 5 - k) (zm_pi (zm_pi z 30 4 (nI k)) 30 5 (-1)) (by omega) (by rw [Nat.pow_zero]; decide) ⟨⟨fun j hj => by rw [zm_pa_ne (by omega), zm_pa_ne (by omega)]; exact zF.1 j hj, zF.2⟩, by rw [zm_pa_at, pk_un (by decide), zm_pa_at, pk_un (by decide)]; exact z3, by rw [zm_pa_at, pk_un (by decide), zm_pa_at, pk_us], fun j hj => absurd hj (Nat.not_lt_zero j), fun j hj p hp hs => by
      obtain rfl : j = 0 := by omega
      rw [zm_pa_ne (by decide), zm_pa_ne (by decide)]
      exact z34 p hp hs, by rw [zm_pa_at, pk_us, Nat.zero_mul]; rfl, fun h0 => by rw [Nat.zero_mul] at h0; exact absurd h0 (Nat.lt_irrefl 0)⟩
    rw [hL0, show d + 5 - k + k + 1 = d + 6 by omega] at hT
    refine gX3_choose_0 hT (zp_v (fun y hy => gX3_choose_17 ⟨rfl, hy.1⟩))
  refine gX7_lessons_69 hCc (zp_v (fun y hy => ?_))
  obtain ⟨yF, -, -, -, -, yM1, yM2⟩ := hy
  have yQ : zc_Q a y := hQ.keep (fun j hj => yF.1 j (by omega)) yF.2
  rw [Nat.zero_add, Nat.one_mul] at yM1 yM2
  rw [zs_les]
  refine gX7_lessons_81 (fun g4 => ?_) (fun g4 => gX7_lessons_86 ?_)
  · rw [if_neg g4]
    have h0 : 0 ≤ i := by
      have q1 := hG.2.1
      rw [fa_le] at q1 ⊢
      have e1 : (-1 : Int32).toInt = -1 := rfl
      have e0 : (0 : Int32).toInt = 0 := rfl
      have : i.toInt ≠ -1 := fun q => g4 (Int32.toInt_inj.mp (by rw [q]; rfl))
      omega
    obtain ⟨j, hj, rfl⟩ := zx_of (n := k) ⟨h0, hG.2.2⟩ (by omega)
    refine gX7_lessons_96 (vp_in_nI (by omega) (by decide)) ?_
    rw [zx_clamp (by omega), yM2 hpk j hj]
    exact ⟨rfl, yQ.P⟩
  · rw [if_pos g4, yM1]
    exact ⟨rfl, yQ.P⟩
