/-! ===== read, type, wipe ===== -/
theorem zs_answer_neg {a : zs_A} (hk : zs_ok a) {p q x tm : Int32} (h : (zs_answer a p q x tm).1 < 0) : (zs_answer a p q x tm).2 = a := by
  unfold zs_answer at h ⊢
  by_cases c : (0 ≤ p ∧ p < 12) ∧ (0 ≤ q ∧ q < 7) ∧ (0 ≤ x ∧ x < 3) ∧ nI (zs_lt a) ≤ tm ∧ tm ≤ 999
  · rw [if_pos c] at h ⊢
    by_cases c2 : a.1 1 0 = 160
    · rw [if_pos c2]
    · rw [if_neg c2] at h
      have := hk.2.1.1
      exact absurd h (nI_pos (by omega))
  · rw [if_neg c]
theorem zs_answer_keep (a : zs_A) (p q x tm : Int32) : (∀ s, (zs_answer a p q x tm).2.1 9 s = a.1 9 s) ∧ (zs_answer a p q x tm).2.2 = a.2 := by
  unfold zs_answer
  by_cases c : (0 ≤ p ∧ p < 12) ∧ (0 ≤ q ∧ q < 7) ∧ (0 ≤ x ∧ x < 3) ∧ nI (zs_lt a) ≤ tm ∧ tm ≤ 999
  · rw [if_pos c]
    by_cases c2 : a.1 1 0 = 160
    · rw [if_pos c2]
      exact ⟨fun _ => rfl, rfl⟩
    · rw [if_neg c2]
      exact ⟨fun _ => rfl, rfl⟩
  · rw [if_neg c]
    exact ⟨fun _ => rfl, rfl⟩
theorem zs_answer_form (a : zs_A) (p q x tm : Int32) (s : Nat) : (zs_answer a p q x tm).2.1 8 s = a.1 8 s := by
  unfold zs_answer
  by_cases c : (0 ≤ p ∧ p < 12) ∧ (0 ≤ q ∧ q < 7) ∧ (0 ≤ x ∧ x < 3) ∧ nI (zs_lt a) ≤ tm ∧ tm ≤ 999
  · rw [if_pos c]
    by_cases c2 : a.1 1 0 = 160
    · rw [if_pos c2]
    · rw [if_neg c2]
      rfl
  · rw [if_neg c]
theorem l_read {d : Nat} {s : Nat} (hs : s < 4) (p tm : Int32) {Q : Value → zm_S → Prop} :
    ∀ (m k : Nat) (a : zs_A) (v : zm_S), zd_P a v → a.1 8 s ≠ 0 → a.1 9 s + 1 ≤ m + k → k ≤ a.1 9 s → (∀ r u, zp (.int (zs_rdl s p tm m k a).1) (zd_P (zs_rdl s p tm m k a).2) r u → Q r u) → zm_T zd_H (d + 3) mX8_read Q 43 [(0, .ref 0), (1, .int (nI s)), (2, .int p), (3, .int tm), (4, .int (nI k))] [] v := by
  intro m
  induction m with
  | zero =>
    intro k a v h hf hm hk hQ
    omega
  | succ m ih =>
    intro k a v h hf hm hk hQ
    obtain ⟨e1, e2, e3⟩ := h.2.2.2.2.1 s hs
    have hz := (h.1.2.2.2.1 s hs).2
    have hc : (nI s).toNatClampNeg = s := zx_clamp (by omega)
    refine gX8_read_43 (vp_in_nI hs (by decide)) (fun h43 => ?_) (fun h43 => ?_)
    · rw [hc, e2, nI_leI (by omega) (by omega)] at h43
      refine gX8_read_83 (hQ _ _ ?_)
      rw [zs_rdl, if_neg (by omega)]
      exact ⟨rfl, h⟩
    · rw [hc, e2, nI_leI (by omega) (by omega)] at h43
      have hk2 : k < a.1 9 s := by omega
      refine gX8_read_54 (by rw [zx_idx hs (by omega)]; exact vp_in_nI (by omega) (by decide)) (by rw [zx_idx hs (by omega), zx_clamp (by omega), e3 hf k hk2]; exact m_answer h p (nI k) (a.2 s k) tm) (zp_i (fun u hu => ?_))
      rw [zs_rdl, if_pos hk2] at hQ
      refine gX8_read_74 (fun h74 => ?_) (fun h74 => ?_)
      · rw [if_pos h74] at hQ
        rw [zs_answer_neg h.1 h74] at hu
        exact gX8_read_83 (hQ _ _ ⟨rfl, hu⟩)
      · rw [if_neg h74] at hQ
        refine gX8_read_77 ?_
        rw [nI_1]
        have hkeep := zs_answer_keep a p (nI k) (a.2 s k) tm
        exact ih (k + 1) _ u hu (by rw [zs_answer_form]; exact hf) (by rw [hkeep.1]; omega) (by rw [hkeep.1]; omega) hQ
theorem m_read {d : Nat} {a : zs_A} {v : zm_S} (h : zd_P a v) (s p tm : Int32) : zm_C zd_H (d + 3) mX8_read [.ref 0, .int s, .int p, .int tm] v (zp (.int (zs_read a s p tm).1) (zd_P (zs_read a s p tm).2)) := by
  refine zm_C.of mtX8_read.1.2.2.2.2.2.2 rfl (Nat.le_of_ble_eq_true rfl) ?_
  have bad : ∀ (hb : ¬ ((0 ≤ s ∧ s < 4) ∧ (0 ≤ p ∧ p < 12) ∧ nI (zs_lt a) ≤ tm ∧ tm ≤ 999)), zm_T zd_H (d + 3) mX8_read (zp (.int (zs_read a s p tm).1) (zd_P (zs_read a s p tm).2)) 22 [] [] v := fun hb => by
    refine gX8_read_22 ?_
    rw [zs_read, if_neg hb]
    exact ⟨rfl, h⟩
  refine gX8_read_0 (k_isSheet _) (zq_i ?_)
  refine gX8_read_4 (fun h4 => bad (fun c => zi_0.mp h4 c.1)) (fun h4 => ?_)
  refine gX8_read_7 (k_isPupil _) (zq_i ?_)
  refine gX8_read_11 (fun h11 => bad (fun c => zi_0.mp h11 c.2.1)) (fun h11 => ?_)
  refine gX8_read_14 (k_isLate h tm) (zq_i ?_)
  refine gX8_read_19 (fun h19 => ?_) (fun h19 => bad (fun c => zi_0.mp h19 c.2.2))
  have hG : (0 ≤ s ∧ s < 4) ∧ (0 ≤ p ∧ p < 12) ∧ nI (zs_lt a) ≤ tm ∧ tm ≤ 999 := ⟨zi_n0.mp h4, zi_n0.mp h11, zi_n0.mp h19⟩
  obtain ⟨s, hs, rfl⟩ := zx_of (n := 4) hG.1 (by decide)
  have hc : (nI s).toNatClampNeg = s := zx_clamp (by omega)
  obtain ⟨e1, e2, e3⟩ := h.2.2.2.2.1 s hs
  have hf := h.1.2.2.2.1 s hs
  refine gX8_read_25 (vp_in_nI hs (by decide)) (fun h25 => ?_) (fun h25 => ?_)
  · rw [hc, e1, zx_form _ (by omega)] at h25
    refine gX8_read_40 ?_
    rw [show (0 : Int32) = nI 0 from rfl]
    refine l_read hs p tm 61 0 a v h h25 (by omega) (by omega) (fun r u hru => ?_)
    rw [zs_read, if_pos hG, hc, if_neg h25]
    exact hru
  · rw [hc, e1, zx_form _ (by omega)] at h25
    refine gX8_read_34 (k_met _) (zq_i (gX8_read_39 ?_))
    rw [zs_read, if_pos hG, hc, if_pos (Decidable.not_not.mp h25)]
    exact h.metp rfl (by decide)
theorem zx_le255 (s : Int32) : s ≤ 255 ↔ s < 256 := by rw [fa_le, fa_lt]; show s.toInt ≤ 255 ↔ s.toInt < 256; omega
theorem m_type {d : Nat} {a : zs_A} {v : zm_S} (h : zd_P a v) (b : Int32) : zm_C zd_H (d + 1) mX8_type [.ref 0, .int b] v (zp (.int (zs_type a b).1) (zd_P (zs_type a b).2)) := by
  refine zm_C.of mtX8_type.1.2.2.2.2.2.2 rfl (Nat.le_of_ble_eq_true rfl) ?_
  obtain ⟨e1, e2⟩ := h.2.2.2.1
  have hl := h.1.2.2.1
  refine gX8_type_0 (k_inI b 0 255 rfl rfl) (zq_i ?_)
  rw [zi_cong (show (0 ≤ b ∧ b ≤ 255) ↔ (0 ≤ b ∧ b < 256) by rw [zx_le255])]
  refine gX8_type_9 (fun h9 => ?_) (fun h9 => gX8_type_12 (by rw [zs_type, if_neg (zi_0.mp h9)]; exact ⟨rfl, h⟩))
  have hG := zi_n0.mp h9
  refine gX8_type_15 (fun h15 => ?_) (fun h15 => gX8_type_24 ?_)
  · rw [e1] at h15
    have hn : a.1 6 0 ≠ 60 := fun q => h15 (by rw [q]; rfl)
    obtain ⟨b, hb, rfl⟩ := zx_of (n := 256) hG (by decide)
    refine gX8_type_27 (by rw [e1]; exact vp_in_nI (by omega) (by decide)) ?_
    rw [zs_type, if_pos hG, if_neg hn, e1, zx_clamp (by omega), zx_clamp (by omega), nI_1]
    refine ⟨rfl, ⟨h.1.1, h.1.2.1, ⟨?_, fun k hk => ?_⟩, h.1.2.2.2⟩, h.2.1, h.2.2.1, ⟨?_, fun k hk => ?_⟩, h.2.2.2.2.1, h.2.2.2.2.2⟩
    · simp [zs_u]; omega
    · have hk : k < a.1 6 0 + 1 := by simpa [zs_u] using hk
      by_cases e : k = a.1 6 0
      · simp [zs_u, e]; omega
      · simp [zs_u, e]; exact hl.2 k (by omega)
    · simp [zm_pa_fst, upd, zs_u]
    · have hk : k < a.1 6 0 + 1 := by simpa [zs_u] using hk
      by_cases e : k = a.1 6 0
      · simp [zm_pa_fst, upd, zs_u, e]
      · simp [zm_pa_fst, upd, zs_u, e]; exact e2 k (by omega)
  · rw [e1] at h15
    rw [zs_type, if_pos hG, if_pos ((nI_eq (b := 60) (by omega) (by decide)).mp h15)]
    exact ⟨rfl, h⟩
theorem m_wipe {d : Nat} {a : zs_A} {v : zm_S} (h : zd_P a v) : zm_C zd_H d mX8_wipe [.ref 0] v (zp (.int (zs_wipe a).1) (zd_P (zs_wipe a).2)) := by
  refine zm_C.of mtX8_wipe.1.2.2.2.2.2.2 rfl (Nat.le_of_ble_eq_true rfl) ?_
  refine gX8_wipe_0 ?_
  refine ⟨by rw [h.2.2.2.1.1]; rfl, ⟨h.1.1, h.1.2.1, ⟨?_, fun k hk => ?_⟩, h.1.2.2.2⟩, h.2.1, h.2.2.1, ⟨?_, fun k hk => ?_⟩, h.2.2.2.2.1, h.2.2.2.2.2⟩
  · simp [zs_wipe, zs_u]
  · simp [zs_wipe, zs_u] at hk
  · simp [zm_pa_fst, upd, zs_wipe, zs_u]; rfl
  · simp [zs_wipe, zs_u] at hk
/-! ===== what counts ===== -/
def zs_say (a : zs_A) (p q : Nat) : Nat → Nat
  | 0 => 2
  | k + 1 => if a.1 2 k = p ∧ a.1 3 k = q ∧ a.1 5 k ≤ a.1 0 1 then a.1 4 k else zs_say a p q k
def zs_S (a : zs_A) (p q : Nat) : Nat := zs_say a p q (a.1 1 0)
theorem zs_say_lt {a : zs_A} (h : zs_ok a) (p q : Nat) : ∀ k, k ≤ a.1 1 0 → zs_say a p q k < 3
  | 0, _ => show 2 < 3 by decide
  | k + 1, hk => by
    unfold zs_say
    split
    · exact (h.2.1.2.1 k (by omega)).2.2.1
    · exact zs_say_lt h p q k (by omega)
theorem zs_S_lt {a : zs_A} (h : zs_ok a) (p q : Nat) : zs_S a p q < 3 := zs_say_lt h p q _ (Nat.le_refl _)
/-- the model's row of what counts -/
def zd_S (a : zs_A) (v : zm_S) : Prop := ∀ p q, p < 12 → q < 7 → v.1 10 (7 * p + q) = nI (zs_S a p q)
theorem l_findSays2 {d : Nat} {a : zs_A} {w0 : zm_S} {Q : Value → zm_S → Prop} (hQ : ∀ u, zd_P a u → zd_S a u → (∀ k, k ≠ 10 → u.1 k = w0.1 k) → Q .null u) :
    ∀ (m k : Nat) (v : zm_S), zd_P a v → (∀ k, k ≠ 10 → v.1 k = w0.1 k) → k + m = a.1 1 0 → (∀ p q, p < 12 → q < 7 → v.1 10 (7 * p + q) = nI (zs_say a p q k)) → zm_T zd_H d mX8_findSays Q 23 [(0, .ref 0), (1, .int (nI k))] [] v := by
  intro m
  induction m with
  | zero =>
    intro k v h hG hk hs
    obtain rfl : k = a.1 1 0 := by omega
    refine gX8_findSays_23 (fun _ => gX8_findSays_90 (hQ v h hs hG)) (fun h23 => ?_)
    rw [h.2.2.1.1] at h23
    exact absurd (Int32.le_refl _) h23
  | succ m ih =>
    intro k v h hG hk hs
    have ht := h.1.2.1.1
    obtain ⟨e6, e7, e8, e9⟩ := h.2.2.1.2 k (by omega)
    obtain ⟨r2, r3, r4, r5⟩ := h.1.2.1.2.1 k (by omega)
    have e5 := h.2.1 1 (by decide)
    have hck : (nI k).toNatClampNeg = k := zx_clamp (by omega)
    have hat : (7 : Int32) * nI (a.1 2 k) + nI (a.1 3 k) = nI (7 * a.1 2 k + a.1 3 k) := by rw [show (7 : Int32) = nI 7 from rfl, pk_mul, nI_add]
    have hin : vp_in (nI k) 160 := vp_in_nI (by omega) (by decide)
    have has := h.1.1
    refine gX8_findSays_23 (fun h23 => absurd h23 (by rw [h.2.2.1.1]; exact nI_ge (by omega) (by omega))) (fun _ => ?_)
    refine gX8_findSays_31 hin hin hin (vp_in_nI (n := 1) (by decide) (by decide)) (fun h31 => ?_) (fun h31 => ?_)
    · rw [hck, e6, e7, hat]
      refine gX8_findSays_77 (vp_in_nI (by omega) (by decide)) ?_
      refine gX8_findSays_83 (vp_in_nI (by omega) (by decide)) ?_
      rw [hck, e9, show (1 : Int32).toNatClampNeg = 1 from rfl, e5, nI_ltI (by omega) (by omega)] at h31
      rw [zx_clamp (by omega), nI_1]
      refine ih (k + 1) _ (h.pa (by omega) _) (fun k hk => by rw [zm_pa_ne hk]; exact hG k hk) (by omega) (fun p q hp hq => ?_)
      rw [zm_pa_at, zs_say, if_neg (by omega)]
      by_cases e : 7 * p + q = 7 * a.1 2 k + a.1 3 k
      · rw [e, pk_us, ← e, hs p q hp hq]
      · rw [pk_un e, hs p q hp hq]
    · rw [hck, e6, e7, hat]
      refine gX8_findSays_68 hin ?_
      refine gX8_findSays_83 (vp_in_nI (by omega) (by decide)) ?_
      rw [hck, e9, show (1 : Int32).toNatClampNeg = 1 from rfl, e5, nI_ltI (by omega) (by omega)] at h31
      rw [zx_clamp (by omega), hck, e8, nI_1]
      refine ih (k + 1) _ (h.pa (by omega) _) (fun k hk => by rw [zm_pa_ne hk]; exact hG k hk) (by omega) (fun p q hp hq => ?_)
      rw [zm_pa_at, zs_say]
      by_cases e : 7 * p + q = 7 * a.1 2 k + a.1 3 k
      · rw [e, pk_us, if_pos (by omega)]
      · rw [pk_un e, if_neg (by omega), hs p q hp hq]
theorem l_findSays1 {d : Nat} {a : zs_A} {w0 : zm_S} {Q : Value → zm_S → Prop} (hQ : ∀ u, zd_P a u → zd_S a u → (∀ k, k ≠ 10 → u.1 k = w0.1 k) → Q .null u) :
    ∀ (m k : Nat) (v : zm_S), zd_P a v → (∀ k, k ≠ 10 → v.1 k = w0.1 k) → k + m = 84 → (∀ b, b < k → v.1 10 b = 2) → zm_T zd_H d mX8_findSays Q 2 [(0, .ref 0), (1, .int (nI k))] [] v := by
  intro m
  induction m with
  | zero =>
    intro k v h hG hk hs
    obtain rfl : k = 84 := by omega
    refine gX8_findSays_2 (fun _ => gX8_findSays_21 ?_) (fun h2 => absurd (by decide) h2)
    rw [show (0 : Int32) = nI 0 from rfl]
    exact l_findSays2 hQ (a.1 1 0) 0 v h hG (by omega) (fun p q hp hq => by rw [hs _ (by omega)]; rfl)
  | succ m ih =>
    intro k v h hG hk hs
    refine gX8_findSays_2 (fun h2 => absurd h2 (nI_ge (b := 84) (by omega) (by decide))) (fun _ => ?_)
    refine gX8_findSays_8 (vp_in_nI (by omega) (by decide)) ?_
    rw [zx_clamp (by omega), nI_1]
    refine ih (k + 1) _ (h.pa (by omega) _) (fun k hk => by rw [zm_pa_ne hk]; exact hG k hk) (by omega) (fun b hb => ?_)
    rw [zm_pa_at]
    by_cases e : b = k
    · rw [e, pk_us]
    · rw [pk_un e]; exact hs b (by omega)
theorem k_findSays_g {d : Nat} {a : zs_A} {v : zm_S} (h : zd_P a v) : zm_C zd_H d mX8_findSays [.ref 0] v (zp .null (fun u => zd_P a u ∧ zd_S a u ∧ ∀ k, k ≠ 10 → u.1 k = v.1 k)) := by
  refine zm_C.of mtX8_findSays.1.2.2.2.2.2.2 rfl (Nat.le_of_ble_eq_true rfl) ?_
  refine gX8_findSays_0 ?_
  rw [show (0 : Int32) = nI 0 from rfl]
  exact l_findSays1 (w0 := v) (fun u h1 h2 h3 => ⟨rfl, h1, h2, h3⟩) 84 0 v h (fun _ _ => rfl) (by omega) (fun b hb => absurd hb (Nat.not_lt_zero b))
theorem k_findSays {d : Nat} {a : zs_A} {v : zm_S} (h : zd_P a v) : zm_C zd_H d mX8_findSays [.ref 0] v (zp .null (fun u => zd_P a u ∧ zd_S a u)) := (k_findSays_g h).post (fun _ _ q => ⟨q.1, q.2.1, q.2.2.1⟩)
def zs_said (a : zs_A) (p q : Int32) : Int32 := if (0 ≤ p ∧ p < 12) ∧ 0 ≤ q ∧ q < 7 then nI (zs_S a p.toNatClampNeg q.toNatClampNeg) else -2
theorem zx_7 (p q : Nat) : (7 : Int32) * nI p + nI q = nI (7 * p + q) := by rw [show (7 : Int32) = nI 7 from rfl, pk_mul, nI_add]
theorem m_said {d : Nat} {a : zs_A} {v : zm_S} (h : zd_P a v) (p q : Int32) : zm_C zd_H (d + 2) mX8_said [.ref 0, .int p, .int q] v (zp (.int (zs_said a p q)) (zd_P a)) := by
  refine zm_C.of mtX8_said.1.2.2.2.2.2.2 rfl (Nat.le_of_ble_eq_true rfl) ?_
  have bad : ∀ (hb : ¬ ((0 ≤ p ∧ p < 12) ∧ 0 ≤ q ∧ q < 7)), zm_T zd_H (d + 2) mX8_said (zp (.int (zs_said a p q)) (zd_P a)) 14 [] [] v := fun hb => gX8_said_14 (by rw [zs_said, if_neg hb]; exact ⟨rfl, h⟩)
  refine gX8_said_0 (k_isPupil _) (zq_i ?_)
  refine gX8_said_4 (fun h4 => bad (fun c => zi_0.mp h4 c.1)) (fun h4 => ?_)
  refine gX8_said_7 (k_isAny _) (zq_i ?_)
  refine gX8_said_11 (fun h11 => ?_) (fun h11 => bad (fun c => zi_0.mp h11 c.2))
  have hG := And.intro (zi_n0.mp h4) (zi_n0.mp h11)
  obtain ⟨p, hp, rfl⟩ := zx_of (n := 12) hG.1 (by decide)
  obtain ⟨q, hq, rfl⟩ := zx_of (n := 7) hG.2 (by decide)
  refine gX8_said_17 (k_findSays h) (zp_v (fun u hu => ?_))
  refine gX8_said_21 (by rw [zx_7]; exact vp_in_nI (by omega) (by decide)) ?_
  rw [zx_7, zx_clamp (by omega), hu.2 p q hp hq, zs_said, if_pos hG, zx_clamp (by omega), zx_clamp (by omega)]
  exact ⟨rfl, hu.1⟩
