/-! ===== asking, in the class ===== -/
def zc_h (n : Nat) (H : Nat → Nat) (w : zm_S) : Prop := w.1 28 1 = nI n ∧ ∀ q, q < n → w.1 29 q = nI (H q)
theorem k_splits {d : Nat} {n : Nat} {H : Nat → Nat} (hn : n ≤ 7) {w : zm_S} (h : zc_h n H w) {l : Nat} (hl : l < 100) (ih : ∀ k, 0 < k → k < 16384 → zm_C zc_H d mX1_suffices [.ref 28, .int (nI l), .int (nI k)] w (zq (.int (zi (zs_FF n H k ≤ l))) w)) {q k : Nat} (hq : q < n) (hk : k < 16384) : zm_C zc_H (d + 1) mX1_splitsWell [.ref 28, .int (nI q), .int (nI (l + 1)), .int (nI k)] w (zq (.int (zi (zs_by H (zs_FF n H) q k ≤ l + 1))) w) := by
  refine zm_C.of mtX1_splitsWell.1.2.2.2.2.2.2 rfl (Nat.le_of_ble_eq_true rfl) ?_
  have e29 : w.1 29 (nI q).toNatClampNeg = nI (H q) := by rw [zx_clamp (by omega)]; exact h.2 q hq
  have e1 : nI k &&& w.1 29 (nI q).toNatClampNeg = nI (k &&& H q) := by rw [e29, fa_and]
  have e2 : nI k &&& (w.1 29 (nI q).toNatClampNeg ^^^ -1) = nI (k ^^^ (k &&& H q)) := by rw [e29, zy_notn]
  have l1 : k &&& H q ≤ k := Nat.and_le_left
  have l2 := zy_xa_le k (H q)
  have el : nI (l + 1) - 1 = nI l := nI_pred l
  have no : ¬ (zs_by H (zs_FF n H) q k ≤ l + 1) → zm_T zc_H (d + 1) mX1_splitsWell (zq (.int (zi (zs_by H (zs_FF n H) q k ≤ l + 1))) w) 60 [] [] w := fun c => gX1_splitsWell_60 (by rw [zi_f c]; exact zq_m _ _)
  refine gX1_splitsWell_0 (vp_in_nI (by omega) (by decide)) (vp_in_nI (by omega) (by decide)) ?_ ?_
  all_goals
    rw [e1]
    intro g
    rw [show (0 : Int32) = nI 0 from rfl, nI_eq (by omega) (by decide)] at g
  · refine no ?_
    rw [zs_by_iff (by omega)]
    exact fun c => c.1 g
  · rw [e2]
    refine gX1_splitsWell_27 (fun g2 => no ?_) (fun g2 => ?_)
    · rw [show (0 : Int32) = nI 0 from rfl, nI_eq (by omega) (by decide)] at g2
      rw [zs_by_iff (by omega)]
      exact fun c => c.2.1 g2
    · rw [show (0 : Int32) = nI 0 from rfl, nI_eq (by omega) (by decide)] at g2
      refine gX1_splitsWell_32 (by rw [el]; exact ih _ (by omega) (by omega)) (zq_i ?_)
      refine gX1_splitsWell_41 (fun g3 => no ?_) (fun g3 => ?_)
      · rw [zs_by_iff (by omega)]
        exact fun c => zi_0.mp g3 c.2.2.1
      · refine gX1_splitsWell_44 (by rw [el]; exact ih _ (by omega) (by omega)) (zq_i ?_)
        refine gX1_splitsWell_53 (fun g4 => no ?_) (fun g4 => gX1_splitsWell_56 ?_)
        · rw [zs_by_iff (by omega)]
          exact fun c => zi_0.mp g4 c.2.2.2
        · rw [zi_t]; exact zq_m _ _
          rw [zs_by_iff (by omega)]
          exact ⟨g, g2, zi_n0.mp g3, zi_n0.mp g4⟩
theorem l_suffices {d : Nat} {n : Nat} {H : Nat → Nat} (hn : n ≤ 7) {w : zm_S} (h : zc_h n H w) {l k : Nat} (hk : k < 16384) (h1 : k &&& (k - 1) ≠ 0) (hl : l < 100) (hs : ∀ q, q < n → zm_C zc_H d mX1_splitsWell [.ref 28, .int (nI q), .int (nI l), .int (nI k)] w (zq (.int (zi (zs_by H (zs_FF n H) q k ≤ l))) w)) : ∀ (m q : Nat), q + m = n → (∀ j, j < q → ¬ zs_by H (zs_FF n H) j k ≤ l) → zm_T zc_H (d + 1) mX1_suffices (zq (.int (zi (zs_FF n H k ≤ l))) w) 28 [(0, .ref 28), (1, .int (nI l)), (2, .int (nI k)), (4, .int (nI q))] [] w := by
  intro m
  induction m with
  | zero =>
    intro q hq hno
    obtain rfl : q = n := by omega
    refine gX1_suffices_28 (fun _ => gX1_suffices_56 ?_) (fun z => absurd (by rw [h.1]; exact Int32.le_refl _) z)
    rw [zi_f]; exact zq_m _ _
    rw [zs_FF_iff _ _ (by omega)]
    rintro (c | ⟨j, hj, c⟩)
    · exact h1 c
    · exact hno j hj c
  | succ m ih =>
    intro q hq hno
    refine gX1_suffices_28 (fun z => absurd z (by rw [h.1]; exact nI_ge (by omega) (by omega))) (fun _ => ?_)
    refine gX1_suffices_37 (hs q (by omega)) (zq_i ?_)
    refine gX1_suffices_45 (fun g => gX1_suffices_50 ?_) (fun g => gX1_suffices_48 ?_)
    · rw [nI_1]
      refine ih (q + 1) (by omega) (fun j hj => ?_)
      by_cases c : j = q
      · rw [c]; exact zi_0.mp g
      · exact hno j (by omega)
    · rw [zi_t]; exact zq_m _ _
      rw [zs_FF_iff _ _ (by omega)]
      exact Or.inr ⟨q, by omega, zi_n0.mp g⟩
theorem k_suffices {n : Nat} {H : Nat → Nat} (hn : n ≤ 7) {w : zm_S} (h : zc_h n H w) : ∀ (l d k : Nat), l < 20 → 0 < k → k < 16384 → zm_C zc_H (d + 2 * l + 1) mX1_suffices [.ref 28, .int (nI l), .int (nI k)] w (zq (.int (zi (zs_FF n H k ≤ l))) w) := by
  have base : ∀ (l D k : Nat), l < 20 → 0 < k → k < 16384 → (k &&& (k - 1) ≠ 0 → l ≠ 0 → zm_T zc_H (D + 1) mX1_suffices (zq (.int (zi (zs_FF n H k ≤ l))) w) 25 [(0, .ref 28), (1, .int (nI l)), (2, .int (nI k))] [] w) → zm_C zc_H (D + 1) mX1_suffices [.ref 28, .int (nI l), .int (nI k)] w (zq (.int (zi (zs_FF n H k ≤ l))) w) := by
    intro l D k hl hk0 hk hgo
    refine zm_C.of mtX1_suffices.1.2.2.2.2.2.2 rfl (Nat.le_of_ble_eq_true rfl) ?_
    have hz := zpc_le k
    have h1 := zpc_one hk
    have hinfo := zs_FF_info n H l k (by omega) hk
    have hp : 2 ^ l ≤ 2 ^ 20 := Nat.pow_le_pow_right (by decide) (by omega)
    have no : ¬ zs_FF n H k ≤ l → zm_T zc_H (D + 1) mX1_suffices (zq (.int (zi (zs_FF n H k ≤ l))) w) 23 [] [] w := fun c => gX1_suffices_23 (by rw [zi_f c]; exact zq_m _ _)
    refine gX1_suffices_0 (k_bitCount hk) (zq_i ?_)
    refine gX1_suffices_4 (fun g => ?_) (fun g => gX1_suffices_10 ?_)
    · rw [show (1 : Int32) = nI 1 from rfl, nI_ltI (by omega) (by omega)] at g
      have hne : k &&& (k - 1) ≠ 0 := fun q => absurd (h1.mpr q) (by omega)
      refine gX1_suffices_12 (fun g2 => no ?_) (fun g2 => ?_)
      · rw [show (0 : Int32) = nI 0 from rfl, nI_leI (by omega) (by omega)] at g2
        intro c
        have : l = 0 := by omega
        subst this
        have := hinfo c
        omega
      · rw [show (0 : Int32) = nI 0 from rfl, nI_leI (by omega) (by omega)] at g2
        refine gX1_suffices_16 (fun g3 => hgo hne (by omega)) (fun g3 => no ?_)
        rw [zy_bit l (by omega), nI_leI (by omega) (by omega)] at g3
        exact fun c => g3 (hinfo c)
    · rw [show (1 : Int32) = nI 1 from rfl, nI_ltI (by omega) (by omega)] at g
      rw [zi_t]; exact zq_m _ _
      rw [zs_FF_iff _ _ (by omega)]
      exact Or.inl (h1.mp (by omega))
  intro l
  induction l with
  | zero => intro d k hl hk0 hk; exact base 0 (d + 2 * 0) k hl hk0 hk (fun _ q => absurd rfl q)
  | succ l ih =>
    intro d k hl hk0 hk
    refine base (l + 1) (d + 2 * (l + 1)) k hl hk0 hk (fun hne _ => gX1_suffices_25 ?_)
    refine l_suffices (d := d + 2 * l + 2) hn h hk hne (by omega) (fun q hq => ?_) n 0 (by omega) (fun j hj => absurd hj (Nat.not_lt_zero j))
    exact k_splits hn h (by omega) (fun k' h0' h1' => ih d k' (by omega) h0' h1') hq hk
theorem l_fewest {d : Nat} {n : Nat} {H : Nat → Nat} (hn : n ≤ 7) {w : zm_S} (h : zc_h n H w) {k : Nat} (hk0 : 0 < k) (hk : k < 16384) (h2 : w.1 28 2 = nI k) (hF : zs_FF n H k ≤ n) : ∀ (m l : Nat), l + m = n → l ≤ zs_FF n H k → zm_T zc_H (d + 16) mX1_fewest (zq (.int (nI (zs_FF n H k))) w) 2 [(0, .ref 28), (1, .int (nI l))] [] w := by
  intro m
  induction m with
  | zero =>
    intro l hl hle
    obtain rfl : l = n := by omega
    refine gX1_fewest_2 (fun _ => gX1_fewest_30 ?_) (fun z => absurd (by rw [h.1]; exact Int32.le_refl _) z)
    have e : zs_FF l H k = l := by omega
    rw [h.1, e]
    exact zq_m _ _
  | succ m ih =>
    intro l hl hle
    refine gX1_fewest_2 (fun z => absurd z (by rw [h.1]; exact nI_ge (by omega) (by omega))) (fun _ => ?_)
    have hC := k_suffices hn h l (d + 14 - 2 * l) k (by omega) hk0 hk
    rw [show d + 14 - 2 * l + 2 * l + 1 = d + 15 by omega] at hC
    refine gX1_fewest_10 (by rw [h2]; exact hC) (zq_i ?_)
    refine gX1_fewest_19 (fun g => gX1_fewest_24 ?_) (fun g => gX1_fewest_22 ?_)
    · rw [nI_1]
      exact ih (l + 1) (by omega) (by have := zi_0.mp g; omega)
    · rw [show l = zs_FF n H k by have := zi_n0.mp g; omega]
      exact zq_m _ _
theorem l_firstC {d : Nat} {n : Nat} {H : Nat → Nat} (hn : n ≤ 7) {w : zm_S} (h : zc_h n H w) {k l : Nat} (hk0 : 0 < k) (hk : k < 16384) (h2 : w.1 28 2 = nI k) (hF : zs_FF n H k = l + 1) (hl : l < 7) {f : Nat → Nat} (hf : ∀ q, zs_by H f q k = zs_by H (zs_FF n H) q k) (hfk : f k = l + 1) : ∀ (m q : Nat), q + m = n → zm_T zc_H (d + 2 * l + 3) mX1_first (zq (.int (zs_fst H f k n m q)) w) 2 [(0, .ref 28), (1, .int (nI (l + 1))), (2, .int (nI q))] [] w := by
  intro m
  induction m with
  | zero =>
    intro q hq
    obtain rfl : q = n := by omega
    exact gX1_first_2 (fun _ => gX1_first_35 (zq_m _ _)) (fun z => absurd (by rw [h.1]; exact Int32.le_refl _) z)
  | succ m ih =>
    intro q hq
    refine gX1_first_2 (fun z => absurd z (by rw [h.1]; exact nI_ge (by omega) (by omega))) (fun _ => ?_)
    refine gX1_first_10 (fun z => absurd z (by rw [show (0 : Int32) = nI 0 from rfl, nI_leI (by omega) (by omega)]; omega)) (fun _ => ?_)
    have hC := k_splits (d := d + 2 * l + 1) hn h (l := l) (by omega) (fun k' h0 h1 => k_suffices hn h l d k' (by omega) h0 h1) (q := q) (by omega) hk
    refine gX1_first_14 (by rw [h2]; exact hC) (zq_i ?_)
    rw [zs_fst, hf q, hfk]
    have hge : ∀ x, zs_by H (zs_FF n H) q k ≤ x → x < 9999 → l + 1 ≤ x := by
      intro x hx hx2
      rw [← hF, zs_FF_iff n H (by omega)]
      exact Or.inr ⟨q, by omega, hx⟩
    refine gX1_first_24 (fun g => gX1_first_29 ?_) (fun g => gX1_first_27 ?_)
    · have g2 := zi_0.mp g
      rw [if_neg (by omega), nI_1]
      exact ih (q + 1) (by omega)
    · have g2 := zi_n0.mp g
      have := hge _ (Nat.le_refl _) (by omega)
      rw [if_pos (by omega)]
      exact zq_m _ _
/-! those that are possible -/
theorem zy_shb {s q : Nat} (hs : s < 128) (hq : q < 7) {i : Nat} (hi : i < 14) : ((nI s >>> (nI q &&& 31)) &&& 1) <<< (nI i &&& 31) = nI (if s.testBit q then 2 ^ i else 0) := by
  by_cases c : s.testBit q = true
  · rw [(zy_in (by omega) (by omega)).mpr c, zy_bit i (by omega), if_pos c]
  · have h2 : s / 2 ^ q % 2 ^ 1 < 2 := Nat.mod_lt _ (by decide)
    have e : (nI s >>> (nI q &&& 31)) &&& 1 = 0 := by
      have hne := mt (zy_in (x := s) (k := q) (by omega) (by omega)).mp c
      rw [pk_shrN (by omega) _ q (s_l q (by omega)), show (1 : Int32) = nI (2 ^ 1 - 1) from rfl, fa_mask] at hne ⊢
      have : s / 2 ^ q % 2 ^ 1 ≠ 1 := fun z => hne (by rw [z])
      rw [show s / 2 ^ q % 2 ^ 1 = 0 by omega]; rfl
    rw [e, if_neg c]
    revert i
    decide
theorem l_note {d : Nat} {n i s : Nat} (hn : n ≤ 7) (hi : i < 14) (hs : s < 128) {H : Nat → Nat} {w : zm_S} (h1 : w.1 28 1 = nI n) (hH : ∀ q, q < n → w.1 29 q = nI (H q)) : ∀ (m q : Nat) (u : zm_S), q + m = n → zm_K 29 w u → (∀ j, j < n → u.1 29 j = nI (if j < q then H j ||| (if s.testBit j then 2 ^ i else 0) else H j)) → zm_T zc_H d mX1_note (zp .null (fun u => zm_K 29 w u ∧ ∀ j, j < n → u.1 29 j = nI (H j ||| (if s.testBit j then 2 ^ i else 0)))) 2 [(0, .ref 28), (1, .int (nI i)), (2, .int (nI s)), (3, .int (nI q))] [] u := by
  intro m
  induction m with
  | zero =>
    intro q u hq hK h
    obtain rfl : q = n := by omega
    refine gX1_note_2 (fun _ => gX1_note_32 ⟨rfl, hK, fun j hj => ?_⟩) (fun z => absurd (by rw [hK.1 28 (by decide), h1]; exact Int32.le_refl _) z)
    have := h j hj
    rw [if_pos hj] at this
    exact this
  | succ m ih =>
    intro q u hq hK h
    refine gX1_note_2 (fun z => absurd z (by rw [hK.1 28 (by decide), h1]; exact nI_ge (by omega) (by omega))) (fun _ => ?_)
    refine gX1_note_10 (vp_in_nI (by omega) (by decide)) (vp_in_nI (by omega) (by decide)) ?_
    rw [nI_1, zx_clamp (by omega), h q (by omega), if_neg (by omega), zy_shb hs (by omega) hi, fa_or]
    refine ih (q + 1) _ (by omega) ⟨fun j hj => by rw [zm_pa_ne hj]; exact hK.1 j hj, hK.2⟩ (fun j hj => ?_)
    rw [zm_pa_at]
    by_cases z : j = q
    · rw [z, pk_us, if_pos (show q < q + 1 by omega)]
    · rw [pk_un z, h j hj]
      by_cases z2 : j < q
      · rw [if_pos z2, if_pos (show j < q + 1 by omega)]
      · rw [if_neg z2, if_neg (show ¬ j < q + 1 by omega)]
/-- the row of those that are possible, as far as it is gathered -/
def zc_m (a : zs_A) (w1 w2 : Nat) (w u : zm_S) (k : Nat) : Prop := (∀ j, j ≠ 28 → j ≠ 29 → u.1 j = w.1 j) ∧ u.2 = w.2 ∧ u.1 28 1 = nI (a.1 0 0) ∧ ∀ q, q < a.1 0 0 → u.1 29 q = nI (zs_hs (zs_my a w1 w2 k) (min (zs_pn a w1 w2 k) 14) q)
theorem zs_ps_iff {a : zs_A} (ha : zs_ok a) {w1 w2 k : Nat} (hw1 : w1 < 128) (hw2 : w2 < 128) (hk : k < 2 ^ a.1 0 0) (hst : zs_st a k = true) : zs_ps a w1 w2 k = true ↔ ((k &&& (w1 &&& (2 ^ a.1 0 0 - 1)) = w1 &&& (2 ^ a.1 0 0 - 1)) ∧ k &&& (w2 &&& (2 ^ a.1 0 0 - 1)) = 0) := by
  have hn := ha.1
  have hp := zn_pow ha
  unfold zs_ps
  rw [hst, Bool.true_and, Bool.and_eq_true, decide_eq_true_iff, decide_eq_true_iff]
  have h1 : w1 &&& (2 ^ a.1 0 0 - 1) < 128 := zy_and_lt hw1
  generalize w1 &&& (2 ^ a.1 0 0 - 1) = v1 at h1 ⊢
  have A : (v1 &&& (127 ^^^ k) = 0) ↔ (k &&& v1 = v1) := by
    constructor
    · intro h
      apply Nat.eq_of_testBit_eq
      intro i
      have e := congrArg (fun t => t.testBit i) h
      simp only [Nat.testBit_and, Nat.testBit_xor, Nat.zero_testBit] at e
      rw [Nat.testBit_and]
      cases hv : v1.testBit i
      · simp
      · have hi : i < 7 := by
          apply Decidable.byContradiction
          intro q
          rw [Nat.testBit_lt_two_pow (Nat.lt_of_lt_of_le h1 (Nat.pow_le_pow_right (n := 2) (i := 7) (by decide) (by omega)))] at hv
          cases hv
        rw [hv, show (127 : Nat).testBit i = true by rw [show 127 = 2 ^ 7 - 1 from rfl, Nat.testBit_two_pow_sub_one]; exact decide_eq_true hi] at e
        cases hk2 : k.testBit i
        · rw [hk2] at e; cases e
        · rfl
    · intro h
      apply Nat.eq_of_testBit_eq
      intro i
      rw [Nat.testBit_and, Nat.testBit_xor, Nat.zero_testBit]
      have e := congrArg (fun t => t.testBit i) h
      simp only [Nat.testBit_and] at e
      cases hv : v1.testBit i
      · rfl
      · have hi : i < 7 := by
          apply Decidable.byContradiction
          intro q
          rw [Nat.testBit_lt_two_pow (Nat.lt_of_lt_of_le h1 (Nat.pow_le_pow_right (n := 2) (i := 7) (by decide) (by omega)))] at hv
          cases hv
        rw [hv, Bool.and_true] at e
        rw [e, show (127 : Nat).testBit i = true by rw [show 127 = 2 ^ 7 - 1 from rfl, Nat.testBit_two_pow_sub_one]; exact decide_eq_true hi]
        rfl
  have B : w2 &&& k = k &&& (w2 &&& (2 ^ a.1 0 0 - 1)) := by
    apply Nat.eq_of_testBit_eq
    intro i
    rw [Nat.testBit_and, Nat.testBit_and, Nat.testBit_and, Nat.testBit_two_pow_sub_one]
    by_cases c : i < a.1 0 0
    · simp [c, Bool.and_comm]
    · have : k.testBit i = false := Nat.testBit_lt_two_pow (Nat.lt_of_lt_of_le hk (Nat.pow_le_pow_right (by decide) (by omega)))
      simp [this]
  rw [A, B]
theorem zs_hs_1 (a : zs_A) (w1 w2 k q : Nat) (h : zs_ps a w1 w2 k = true) : zs_hs (zs_my a w1 w2 (k + 1)) (zs_pn a w1 w2 k + 1) q = zs_hs (zs_my a w1 w2 k) (zs_pn a w1 w2 k) q ||| (if k.testBit q then 2 ^ zs_pn a w1 w2 k else 0) := by
  have e : ∀ j, zs_my a w1 w2 (k + 1) j = if zs_ps a w1 w2 k = true ∧ j = zs_pn a w1 w2 k then k else zs_my a w1 w2 k j := fun j => rfl
  unfold zs_hs
  have e2 : zs_my a w1 w2 (k + 1) (zs_pn a w1 w2 k) = k := by rw [e]; exact if_pos ⟨h, rfl⟩
  rw [zb, e2, zb_cong (fun i hi => by rw [e, if_neg (show ¬ (zs_ps a w1 w2 k = true ∧ i = zs_pn a w1 w2 k) by omega)])]
theorem zs_hs_c (a : zs_A) (w1 w2 k q c : Nat) (h : zs_ps a w1 w2 k = true → c ≤ zs_pn a w1 w2 k) : zs_hs (zs_my a w1 w2 (k + 1)) c q = zs_hs (zs_my a w1 w2 k) c q := by
  have e : ∀ j, zs_my a w1 w2 (k + 1) j = if zs_ps a w1 w2 k = true ∧ j = zs_pn a w1 w2 k then k else zs_my a w1 w2 k j := fun j => rfl
  unfold zs_hs
  exact zb_cong (fun i hi => by rw [e, if_neg (fun z => by have := h z.1; omega)])
theorem l_beginC {d : Nat} {a : zs_A} {w1 w2 : Nat} (hw1 : w1 < 128) (hw2 : w2 < 128) {w : zm_S} (h : zc_Q a w) {Q : Value → zm_S → Prop} (hQ : ∀ u, zc_m a w1 w2 w u (2 ^ a.1 0 0) → zm_T zc_H (d + 1) mX1_begin Q 79 [(0, .ref 28), (4, .int (nI (zs_pn a w1 w2 (2 ^ a.1 0 0))))] [] u) : ∀ (m k : Nat) (u : zm_S), k + m = 2 ^ a.1 0 0 → zc_m a w1 w2 w u k → zm_T zc_H (d + 1) mX1_begin Q 22 [(0, .ref 28), (1, .ref 23), (2, .int (nI (w1 &&& (2 ^ a.1 0 0 - 1)))), (3, .int (nI (w2 &&& (2 ^ a.1 0 0 - 1)))), (4, .int (nI (zs_pn a w1 w2 k))), (5, .int (nI (zs_cnt a k)))] [] u := by
  intro m
  have ha := h.1.1.1
  have hn := ha.1
  have hp := zn_pow ha
  have hcl := zs_cnt_le a (2 ^ a.1 0 0)
  obtain ⟨b5, b6, b7, b8⟩ := h.2.2.2
  induction m with
  | zero =>
    intro k u hk hm
    obtain rfl : k = 2 ^ a.1 0 0 := by omega
    exact gX1_begin_22 (fun _ => hQ u hm) (fun q => absurd (by rw [hm.1 23 (by decide) (by decide), b7]; exact Int32.le_refl _) q)
  | succ m ih =>
    intro k u hk hm
    have hck := zs_cnt_le a k
    have hpk := zs_pn_le a w1 w2 k
    have hv1 : w1 &&& (2 ^ a.1 0 0 - 1) < 128 := zy_and_lt hw1
    have hv2 : w2 &&& (2 ^ a.1 0 0 - 1) < 128 := zy_and_lt hw2
    by_cases c : zs_st a k = true
    · have hlt := zs_cnt_lt (n := 2 ^ a.1 0 0) (by omega) c
      have e26 : u.1 26 (nI (zs_cnt a k)).toNatClampNeg = nI k := by rw [zx_clamp (by omega), hm.1 26 (by decide) (by decide)]; exact (b8 k (by omega)).2 c
      have hiff := zs_ps_iff ha hw1 hw2 (k := k) (by omega) c
      have skip : zs_ps a w1 w2 k ≠ true → zm_T zc_H (d + 1) mX1_begin Q 73 [(0, .ref 28), (1, .ref 23), (2, .int (nI (w1 &&& (2 ^ a.1 0 0 - 1)))), (3, .int (nI (w2 &&& (2 ^ a.1 0 0 - 1)))), (4, .int (nI (zs_pn a w1 w2 k))), (5, .int (nI (zs_cnt a k)))] [] u := by
        intro z
        refine gX1_begin_73 ?_
        have next := ih (k + 1) u (by omega) ⟨hm.1, hm.2.1, hm.2.2.1, fun q hq => by rw [zs_pn_1, if_neg z, Nat.add_zero, zs_hs_c _ _ _ _ _ _ (fun y => absurd y z)]; exact hm.2.2.2 q hq⟩
        rw [zs_pn_1, if_neg z, zs_cnt_1, if_pos c] at next
        rw [nI_1]
        exact next
      have l1 : k &&& (w1 &&& (2 ^ a.1 0 0 - 1)) ≤ k := Nat.and_le_left
      have l2 : k &&& (w2 &&& (2 ^ a.1 0 0 - 1)) ≤ k := Nat.and_le_left
      refine gX1_begin_22 (fun q => absurd q (by rw [hm.1 23 (by decide) (by decide), b7]; exact nI_ge (by omega) (by omega))) (fun _ => ?_)
      refine gX1_begin_31 (vp_in_nI (by omega) (by decide)) (fun g => skip ?_) (fun g => ?_)
      · rw [e26, fa_and, nI_eq (by omega) (by omega)] at g
        exact fun z => g (hiff.mp z).1
      · rw [e26, fa_and, nI_eq (by omega) (by omega)] at g
        rw [e26]
        refine gX1_begin_48 (fun g2 => skip ?_) (fun g2 => ?_)
        · rw [fa_and, show (0 : Int32) = nI 0 from rfl, nI_eq (by omega) (by omega)] at g2
          exact fun z => g2 (hiff.mp z).2
        · rw [fa_and, show (0 : Int32) = nI 0 from rfl, nI_eq (by omega) (by omega)] at g2
          have ok : zs_ps a w1 w2 k = true := hiff.mpr ⟨g, g2⟩
          refine gX1_begin_55 (fun g3 => gX1_begin_70 (gX1_begin_73 ?_)) (fun g3 => ?_)
          · rw [show (14 : Int32) = nI 14 from rfl, nI_leI (by omega) (by omega)] at g3
            have next := ih (k + 1) u (by omega) ⟨hm.1, hm.2.1, hm.2.2.1, fun q hq => by
              rw [zs_pn_1, if_pos ok, Nat.min_eq_right (by omega), zs_hs_c _ _ _ _ _ _ (fun _ => g3)]
              have := hm.2.2.2 q hq
              rw [Nat.min_eq_right g3] at this
              exact this⟩
            rw [zs_pn_1, if_pos ok, zs_cnt_1, if_pos c] at next
            rw [nI_1, nI_1]
            exact next
          · rw [show (14 : Int32) = nI 14 from rfl, nI_leI (by omega) (by omega)] at g3
            have hC : zm_C zc_H d mX1_note [.ref 28, .int (nI (zs_pn a w1 w2 k)), .int (nI k)] u (zp .null (fun z => zm_K 29 u z ∧ ∀ j, j < a.1 0 0 → z.1 29 j = nI (zs_hs (zs_my a w1 w2 k) (zs_pn a w1 w2 k) j ||| (if k.testBit j then 2 ^ zs_pn a w1 w2 k else 0)))) := by
              refine zm_C.of mtX1_note.1.2.2.2.2.2.2 rfl (Nat.le_of_ble_eq_true rfl) ?_
              have hH : ∀ q, q < a.1 0 0 → u.1 29 q = nI (zs_hs (zs_my a w1 w2 k) (zs_pn a w1 w2 k) q) := fun q hq => by
                have := hm.2.2.2 q hq
                rw [Nat.min_eq_left (by omega)] at this
                exact this
              exact gX1_note_0 (l_note (by omega) (by omega) (by omega) hm.2.2.1 hH (a.1 0 0) 0 u (by omega) ⟨fun _ _ => rfl, rfl⟩ (fun j hj => by rw [if_neg (by omega)]; exact hH j hj))
            refine gX1_begin_62 hC (zp_v (fun z hz => gX1_begin_70 (gX1_begin_73 ?_)))
            have next := ih (k + 1) z (by omega) ⟨fun j q1 q2 => by rw [hz.1.1 j q2]; exact hm.1 j q1 q2, by rw [hz.1.2]; exact hm.2.1, by rw [hz.1.1 28 (by decide)]; exact hm.2.2.1, fun q hq => by
              rw [zs_pn_1, if_pos ok, Nat.min_eq_left (by omega), zs_hs_1 _ _ _ _ _ ok]
              exact hz.2 q hq⟩
            rw [zs_pn_1, if_pos ok, zs_cnt_1, if_pos c] at next
            rw [nI_1, nI_1]
            exact next
    · have hps : ¬ zs_ps a w1 w2 k = true := fun z => c (by unfold zs_ps at z; rw [Bool.and_eq_true] at z; exact z.1)
      have next := ih (k + 1) u (by omega) ⟨hm.1, hm.2.1, hm.2.2.1, fun q hq => by rw [zs_pn_1, if_neg hps, Nat.add_zero, zs_hs_c _ _ _ _ _ _ (fun y => absurd y hps)]; exact hm.2.2.2 q hq⟩
      rw [zs_pn_1, if_neg hps, zs_cnt_1, if_neg c] at next
      exact next
theorem c_sure {d : Nat} {a : zs_A} {w : zm_S} (h : zc_P a w) (w1 w2 x : Int32) : zm_C zc_H (d + 17) mX7_sure [.ref 0, .int w1, .int w2, .int x] w (zp (.int (zs_sure a w1 w2 x)) (zc_P a)) := by
  refine zm_C.of mtX7_sure.1.2.2.2.2.2.2 rfl (Nat.le_of_ble_eq_true rfl) ?_
  have ha := h.1.1.1
  have hn := ha.1
  have hp := zn_pow ha
  have bad : ∀ (hb : ¬ ((0 ≤ w1 ∧ w1 < 128) ∧ (0 ≤ w2 ∧ w2 < 128) ∧ 0 ≤ x ∧ x < 2)), zm_T zc_H (d + 17) mX7_sure (zp (.int (zs_sure a w1 w2 x)) (zc_P a)) 28 [] [] w := fun hb => gX7_sure_28 (by rw [zs_sure, if_neg hb]; exact ⟨rfl, h⟩)
  refine gX7_sure_0 (k_within _ _) (zq_i ?_)
  refine gX7_sure_7 (fun g => bad (fun c => zi_0.mp g c.1)) (fun g1 => ?_)
  refine gX7_sure_10 (k_within _ _) (zq_i ?_)
  refine gX7_sure_17 (fun g => bad (fun c => zi_0.mp g c.2.1)) (fun g2 => ?_)
  refine gX7_sure_20 (k_within _ _) (zq_i ?_)
  refine gX7_sure_25 (fun g3 => ?_) (fun g => bad (fun c => zi_0.mp g c.2.2))
  have hG : (0 ≤ w1 ∧ w1 < 128) ∧ (0 ≤ w2 ∧ w2 < 128) ∧ 0 ≤ x ∧ x < 2 := ⟨zi_n0.mp g1, zi_n0.mp g2, zi_n0.mp g3⟩
  obtain ⟨w1, hw1, rfl⟩ := zx_of (n := 128) hG.1 (by decide)
  obtain ⟨w2, hw2, rfl⟩ := zx_of (n := 128) hG.2.1 (by decide)
  obtain ⟨x, hx, rfl⟩ := zx_of (n := 2) hG.2.2 (by decide)
  rw [zs_sure, if_pos hG, zx_clamp (by omega), zx_clamp (by omega), zx_clamp (by omega)]
  refine gX7_sure_31 (k_findStates h) (zp_v (fun u hu => ?_))
  obtain ⟨hQ, -, -⟩ := hu
  have hpn := zs_pn_le a w1 w2 (2 ^ a.1 0 0)
  have hC : zm_C zc_H (d + 16) mX1_begin [.ref 28, .ref 23, .int (nI w1 &&& u.1 23 6), .int (nI w2 &&& u.1 23 6)] u (zp (.int (nI (zs_pn a w1 w2 (2 ^ a.1 0 0)))) (fun z => zc_Q a z ∧ (zs_pn a w1 w2 (2 ^ a.1 0 0) ≤ 14 → zc_h (a.1 0 0) (zs_hs (zs_my a w1 w2 (2 ^ a.1 0 0)) (zs_pn a w1 w2 (2 ^ a.1 0 0))) z ∧ z.1 28 2 = nI (2 ^ zs_pn a w1 w2 (2 ^ a.1 0 0) - 1)))) := by
    refine zm_C.of mtX1_begin.1.2.2.2.2.2.2 rfl (Nat.le_of_ble_eq_true rfl) ?_
    refine gX1_begin_0 (k_fill (o := 29) (n := 7) (by decide) rfl 0 _) (zp_v (fun z hz => gX1_begin_16 ?_))
    rw [hQ.2.2.2.2.1, fa_and, fa_and]
    have hz2 : zc_Q a z := hQ.keep (fun k hk => by rw [hz.1.1 k (by omega), zm_pa_ne (by omega)]) hz.1.2
    refine l_beginC (d := d + 15) hw1 hw2 hz2 (fun y hy => gX1_begin_79 ?_) (2 ^ a.1 0 0) 0 z (by omega) ⟨fun _ _ _ => rfl, rfl, by rw [hz.1.1 28 (by decide), zm_pa_at, pk_us]; exact hQ.2.2.2.1, fun q hq => by rw [hz.2 q (by omega)]; rfl⟩
    have hy2 : zc_Q a y := hz2.keep (fun k hk => hy.1 k (by omega) (by omega)) hy.2.1
    refine ⟨rfl, hy2.keep (fun k hk => zm_pa_ne (by omega)) rfl, fun hle => ⟨⟨by rw [zm_pa_at, pk_un (by decide)]; exact hy.2.2.1, fun q hq => ?_⟩, ?_⟩⟩
    · rw [zm_pa_ne (by decide), hy.2.2.2 q hq, Nat.min_eq_left hle]
    · rw [zm_pa_at, pk_us, if_neg (by rw [show (14 : Int32) = nI 14 from rfl, nI_ltI (by omega) (by omega)]; omega), zy_whole14 _ (by omega)]
  refine gX7_sure_35 hC (zp_i (fun z hz => ?_))
  obtain ⟨zQ, zh⟩ := hz
  rw [zs_sureN]
  generalize hc : zs_pn a w1 w2 (2 ^ a.1 0 0) = c at hpn zh ⊢
  refine gX7_sure_64 (fun g => ?_) (fun g => gX7_sure_71 ?_)
  · rw [show (0 : Int32) = nI 0 from rfl, nI_eq (by omega) (by omega)] at g
    rw [if_neg g]
    refine gX7_sure_74 (fun g4 => ?_) (fun g4 => gX7_sure_81 ?_)
    · rw [show (14 : Int32) = nI 14 from rfl, nI_leI (by omega) (by omega)] at g4
      rw [if_neg (by omega)]
      obtain ⟨zh1, zh2⟩ := zh g4
      have hall := zs_FF_all ha w1 w2 (by omega) (by omega)
      rw [hc] at hall
      generalize hH : zs_hs (zs_my a w1 w2 (2 ^ a.1 0 0)) c = H at zh1 hall ⊢
      have hp2 : 2 ≤ 2 ^ c := Nat.pow_le_pow_right (n := 2) (i := 1) (by decide) (by omega)
      have hp3 : 2 ^ c ≤ 16384 := Nat.pow_le_pow_right (n := 2) (j := 14) (by decide) g4
      have eF : zs_ft (a.1 0 0) H (2 ^ c) (2 ^ c - 1) = zs_FF (a.1 0 0) H (2 ^ c - 1) := zs_ft_FF _ _ (by omega)
      have hCf : zm_C zc_H (d + 16) mX1_fewest [.ref 28] z (zq (.int (nI (zs_FF (a.1 0 0) H (2 ^ c - 1)))) z) := by
        refine zm_C.of mtX1_fewest.1.2.2.2.2.2.2 rfl (Nat.le_of_ble_eq_true rfl) ?_
        exact gX1_fewest_0 (l_fewest (d := d) (by omega) zh1 (by omega) (by omega) zh2 hall (a.1 0 0) 0 (by omega) (Nat.zero_le _))
      refine gX7_sure_84 hCf (zq_i ?_)
      refine gX7_sure_91 (fun g5 => ?_) (fun g5 => gX7_sure_97 (gX7_sure_111 ?_))
      · rw [if_neg (fun q => g5 (by rw [q]; rfl))]
        have hCs : zm_C zc_H (d + 16) mX1_first [.ref 28, .int (nI (zs_FF (a.1 0 0) H (2 ^ c - 1)))] z (zq (.int (if c ≤ 1 then -1 else zs_fst H (zs_ft (a.1 0 0) H (2 ^ c)) (2 ^ c - 1) (a.1 0 0) (a.1 0 0) 0)) z) := by
          refine zm_C.of mtX1_first.1.2.2.2.2.2.2 rfl (Nat.le_of_ble_eq_true rfl) ?_
          refine gX1_first_0 ?_
          by_cases c1 : c ≤ 1
          · obtain rfl : c = 1 := by omega
            have e0 : zs_FF (a.1 0 0) H (2 ^ 1 - 1) = 0 := Nat.le_zero.mp ((zs_FF_iff _ _ (by decide)).mpr (Or.inl (by decide)))
            rw [e0, if_pos c1]
            refine gX1_first_2 (fun z2 => absurd z2 (by rw [zh1.1]; exact nI_ge (a := 0) (by omega) (by omega))) (fun _ => ?_)
            exact gX1_first_10 (fun _ => gX1_first_35 (zq_m _ _)) (fun z2 => absurd (Int32.le_refl _) z2)
          · rw [if_neg c1]
            have hpos : 0 < zs_FF (a.1 0 0) H (2 ^ c - 1) := by
              rw [zs_FF_eq]
              refine zs_fv_pos ?_ _
              intro q
              have := (zpc_one (x := 2 ^ c - 1) (by omega)).mpr q
              have e : zpc (2 ^ c - 1) = c := by
                have : ∀ c, c < 15 → zpc (2 ^ c - 1) = c := by decide +kernel
                exact this c (by omega)
              omega
            obtain ⟨l, hl⟩ : ∃ l, zs_FF (a.1 0 0) H (2 ^ c - 1) = l + 1 := ⟨zs_FF (a.1 0 0) H (2 ^ c - 1) - 1, by omega⟩
            rw [hl]
            have next := l_firstC (d := d + 13 - 2 * l) (by omega) zh1 (k := 2 ^ c - 1) (l := l) (by omega) (by omega) zh2 hl (by omega) (f := zs_ft (a.1 0 0) H (2 ^ c)) (fun q => zs_by_FF _ _ _ (by omega)) (by rw [eF, hl]) (a.1 0 0) 0 (by omega)
            rw [show d + 13 - 2 * l + 2 * l + 3 = d + 16 by omega] at next
            exact next
        exact gX7_sure_102 hCs (zq_i (gX7_sure_111 ⟨rfl, zQ.P⟩))
      · rw [if_pos ((nI_eq (b := 0) (by omega) (by decide)).mp g5), eF]
        exact ⟨rfl, zQ.P⟩
    · rw [show (14 : Int32) = nI 14 from rfl, nI_leI (by omega) (by omega)] at g4
      rw [if_pos (by omega)]
      exact ⟨rfl, zQ.P⟩
  · rw [show (0 : Int32) = nI 0 from rfl, nI_eq (by omega) (by omega)] at g
    rw [if_pos g]
    exact ⟨rfl, zQ.P⟩
