/-! ===== hearing, telling ===== -/
def zs_hr (f : Nat → Nat → Nat) (p q x : Nat) : Nat → Nat → Nat := fun p' q' => if p' = p ∧ q' = q then x else f p' q'
theorem zb_set (g : Nat → Bool) {q m : Nat} (hq : q < m) : zb g m ||| 2 ^ q = zb (fun i => if i = q then true else g i) m := by
  apply Nat.eq_of_testBit_eq
  intro i
  rw [Nat.testBit_or, zb_bit, zb_bit, Nat.testBit_two_pow]
  by_cases c : i = q
  · subst c; simp [hq]
  · have : ¬ q = i := fun z => c z.symm
    simp [c, this]
theorem zb_clr (g : Nat → Bool) (q m : Nat) : zb g m ^^^ (zb g m &&& 2 ^ q) = zb (fun i => if i = q then false else g i) m := by
  apply Nat.eq_of_testBit_eq
  intro i
  rw [Nat.testBit_xor, Nat.testBit_and, zb_bit, zb_bit, Nat.testBit_two_pow]
  by_cases c : i = q
  · subst c; simp
  · have : ¬ q = i := fun z => c z.symm
    simp [c, this]
theorem k_withBit {d : Nat} {w : zm_S} (g : Nat → Bool) {q m : Nat} (hq : q < m) (hm : m ≤ 14) (b : Bool) {x : Int32} (hx : x = zi (b = true)) : zm_C zc_H d mX0_withBit [.int (nI (zb g m)), .int (nI q), .int x] w (zq (.int (nI (zb (fun i => if i = q then b else g i) m))) w) := by
  refine zm_C.of mtX0_withBit.1.2.2.2.2.2.2 rfl (Nat.le_of_ble_eq_true rfl) ?_
  rw [hx]
  refine gX0_withBit_0 (fun c => gX0_withBit_14 ?_) (fun c => gX0_withBit_8 ?_)
  · have := zi_0.mp c
    rw [zy_bit q (by omega), zy_notn, zb_clr]
    cases b
    · exact zq_m _ _
    · exact absurd rfl this
  · have := zi_n0.mp c
    rw [zy_bit q (by omega), fa_or, zb_set g hq]
    subst this
    exact zq_m _ _
theorem zs_sb_hr (f : Nat → Nat → Nat) (p q x y : Nat) : zb (fun i => if i = q then decide (x = y) else decide (f p i = y)) 7 = zs_sb (zs_hr f p q x) y p := by
  unfold zs_sb
  refine zb_cong (fun i _ => ?_)
  unfold zs_hr
  by_cases c : i = q <;> simp [c]
theorem zs_sw_hr (f : Nat → Nat → Nat) (p q x y : Nat) : zb (fun i => if i = p then decide (x = y) else decide (f i q = y)) 12 = zs_sw2 (zs_hr f p q x) y q := by
  unfold zs_sw2
  refine zb_cong (fun i _ => ?_)
  unfold zs_hr
  by_cases c : i = p <;> simp [c]
theorem zs_sb_ne (f : Nat → Nat → Nat) {p p' : Nat} (q x y : Nat) (h : p' ≠ p) : zs_sb (zs_hr f p q x) y p' = zs_sb f y p' := by
  unfold zs_sb zs_hr
  simp [h]
theorem zs_sw_ne (f : Nat → Nat → Nat) {q q' : Nat} (p x y : Nat) (h : q' ≠ q) : zs_sw2 (zs_hr f p q x) y q' = zs_sw2 f y q' := by
  unfold zs_sw2 zs_hr
  simp [h]
/-- nothing but places from lo to hi has changed -/
def zm_F (lo hi : Nat) (w u : zm_S) : Prop := (∀ k, k < lo ∨ hi < k → u.1 k = w.1 k) ∧ u.2 = w.2
theorem k_hear {d : Nat} {f : Nat → Nat → Nat} {w : zm_S} (h : zc_F f w) {p q x : Nat} (hp : p < 12) (hq : q < 7) (hx : x < 3) : zm_C zc_H (d + 1) mX0_hear [.ref 2, .int (nI p), .int (nI q), .int (nI x)] w (zp .null (fun u => zc_F (zs_hr f p q x) u ∧ zm_F 7 10 w u)) := by
  refine zm_C.of mtX0_hear.1.2.2.2.2.2.2 rfl (Nat.le_of_ble_eq_true rfl) ?_
  have cp : (nI p).toNatClampNeg = p := zx_clamp (by omega)
  have cq : (nI q).toNatClampNeg = q := zx_clamp (by omega)
  obtain ⟨y1, y0⟩ := h.1 p hp
  obtain ⟨w1, w0⟩ := h.2 q hq
  have s4 : ∀ z : zm_S, z.1 10 q = nI (zs_sw2 f 0 q) → ∀ {Q : Value → zm_S → Prop}, Q .null (zm_pi z 10 q (nI (zs_sw2 (zs_hr f p q x) 0 q))) → ∀ y, y = zi (decide (x = 0) = true) → zm_T zc_H (d + 1) mX0_hear Q 98 [] [.int y, .int (nI p), .int (z.1 10 q), .int (nI q), .ref 10] z := by
    intro z hz Q hQ y hy
    rw [hz]
    refine gX0_hear_98 (k_withBit (fun i => decide (f i q = 0)) hp (by decide) (decide (x = 0)) hy) (zq_i (gX0_hear_101 (vp_in_nI hq (by decide)) ?_))
    rw [zs_sw_hr, cq]
    exact hQ
  have s3 : ∀ z : zm_S, z.1 9 q = nI (zs_sw2 f 1 q) → z.1 10 q = nI (zs_sw2 f 0 q) → ∀ {Q : Value → zm_S → Prop}, Q .null (zm_pi (zm_pi z 9 q (nI (zs_sw2 (zs_hr f p q x) 1 q))) 10 q (nI (zs_sw2 (zs_hr f p q x) 0 q))) → ∀ y, y = zi (decide (x = 1) = true) → zm_T zc_H (d + 1) mX0_hear Q 73 [(0, .ref 2), (1, .int (nI p)), (2, .int (nI q)), (3, .int (nI x))] [.int y, .int (nI p), .int (z.1 9 q), .int (nI q), .ref 9] z := by
    intro z hz hz0 Q hQ y hy
    rw [hz]
    refine gX0_hear_73 (k_withBit (fun i => decide (f i q = 1)) hp (by decide) (decide (x = 1)) hy) (zq_i ?_)
    rw [zs_sw_hr]
    refine gX0_hear_76 (vp_in_nI hq (by decide)) (vp_in_nI hq (by decide)) (fun g => gX0_hear_97 ?_) (fun g => gX0_hear_93 ?_)
    · rw [cq]
      exact s4 _ (by rw [zm_pa_ne (by decide)]; exact hz0) hQ _ (by rw [zi_f]; rw [decide_eq_true_iff]; exact fun e => g (by rw [e]; rfl))
    · rw [cq]
      exact s4 _ (by rw [zm_pa_ne (by decide)]; exact hz0) hQ _ (by rw [zi_t]; rw [decide_eq_true_iff]; exact (nI_eq (b := 0) (by omega) (by decide)).mp g)
  have s2 : ∀ z : zm_S, z.1 8 p = nI (zs_sb f 0 p) → z.1 9 q = nI (zs_sw2 f 1 q) → z.1 10 q = nI (zs_sw2 f 0 q) → ∀ {Q : Value → zm_S → Prop}, Q .null (zm_pi (zm_pi (zm_pi z 8 p (nI (zs_sb (zs_hr f p q x) 0 p))) 9 q (nI (zs_sw2 (zs_hr f p q x) 1 q))) 10 q (nI (zs_sw2 (zs_hr f p q x) 0 q))) → ∀ y, y = zi (decide (x = 0) = true) → zm_T zc_H (d + 1) mX0_hear Q 47 [(0, .ref 2), (1, .int (nI p)), (2, .int (nI q)), (3, .int (nI x))] [.int y, .int (nI q), .int (z.1 8 p), .int (nI p), .ref 8] z := by
    intro z hz hz1 hz0 Q hQ y hy
    rw [hz]
    refine gX0_hear_47 (k_withBit (fun i => decide (f p i = 0)) hq (by decide) (decide (x = 0)) hy) (zq_i ?_)
    rw [zs_sb_hr]
    refine gX0_hear_50 (vp_in_nI hp (by decide)) (vp_in_nI hq (by decide)) (fun g => gX0_hear_72 ?_) (fun g => gX0_hear_68 ?_)
    · rw [cq, cp]
      exact s3 _ (by rw [zm_pa_ne (by decide)]; exact hz1) (by rw [zm_pa_ne (by decide)]; exact hz0) hQ _ (by rw [zi_f]; rw [decide_eq_true_iff]; exact fun e => g (by rw [e]; rfl))
    · rw [cq, cp]
      exact s3 _ (by rw [zm_pa_ne (by decide)]; exact hz1) (by rw [zm_pa_ne (by decide)]; exact hz0) hQ _ (by rw [zi_t]; rw [decide_eq_true_iff]; exact (nI_eq (b := 1) (by omega) (by decide)).mp g)
  have fin : zp .null (fun u => zc_F (zs_hr f p q x) u ∧ zm_F 7 10 w u) .null (zm_pi (zm_pi (zm_pi (zm_pi w 7 p (nI (zs_sb (zs_hr f p q x) 1 p))) 8 p (nI (zs_sb (zs_hr f p q x) 0 p))) 9 q (nI (zs_sw2 (zs_hr f p q x) 1 q))) 10 q (nI (zs_sw2 (zs_hr f p q x) 0 q))) := by
    refine ⟨rfl, ⟨fun p' hp' => ⟨?_, ?_⟩, fun q' hq' => ⟨?_, ?_⟩⟩, fun k hk => ?_, rfl⟩
    · rw [zm_pa_ne (by decide), zm_pa_ne (by decide), zm_pa_ne (by decide), zm_pa_at]
      by_cases c : p' = p
      · rw [c, pk_us]
      · rw [pk_un c, zs_sb_ne _ _ _ _ c]; exact (h.1 p' hp').1
    · rw [zm_pa_ne (by decide), zm_pa_ne (by decide), zm_pa_at]
      by_cases c : p' = p
      · rw [c, pk_us]
      · rw [pk_un c, zs_sb_ne _ _ _ _ c, zm_pa_ne (by decide)]; exact (h.1 p' hp').2
    · rw [zm_pa_ne (by decide), zm_pa_at]
      by_cases c : q' = q
      · rw [c, pk_us]
      · rw [pk_un c, zs_sw_ne _ _ _ _ c, zm_pa_ne (by decide), zm_pa_ne (by decide)]; exact (h.2 q' hq').1
    · rw [zm_pa_at]
      by_cases c : q' = q
      · rw [c, pk_us]
      · rw [pk_un c, zs_sw_ne _ _ _ _ c, zm_pa_ne (by decide), zm_pa_ne (by decide), zm_pa_ne (by decide)]; exact (h.2 q' hq').2
    · rw [zm_pa_ne (by omega), zm_pa_ne (by omega), zm_pa_ne (by omega), zm_pa_ne (by omega)]
  have s1 : ∀ y, y = zi (decide (x = 1) = true) → zm_T zc_H (d + 1) mX0_hear (zp .null (fun u => zc_F (zs_hr f p q x) u ∧ zm_F 7 10 w u)) 22 [(0, .ref 2), (1, .int (nI p)), (2, .int (nI q)), (3, .int (nI x))] [.int y, .int (nI q), .int (nI (zs_sb f 1 p)), .int (nI p), .ref 7] w := by
    intro y hy
    refine gX0_hear_22 (k_withBit (fun i => decide (f p i = 1)) hq (by decide) (decide (x = 1)) hy) (zq_i ?_)
    rw [zs_sb_hr]
    refine gX0_hear_25 (vp_in_nI hp (by decide)) (vp_in_nI hp (by decide)) (fun g => gX0_hear_46 ?_) (fun g => gX0_hear_42 ?_)
    · rw [cp]
      exact s2 _ (by rw [zm_pa_ne (by decide)]; exact y0) (by rw [zm_pa_ne (by decide)]; exact w1) (by rw [zm_pa_ne (by decide)]; exact w0) fin _ (by rw [zi_f]; rw [decide_eq_true_iff]; exact fun e => g (by rw [e]; rfl))
    · rw [cp]
      exact s2 _ (by rw [zm_pa_ne (by decide)]; exact y0) (by rw [zm_pa_ne (by decide)]; exact w1) (by rw [zm_pa_ne (by decide)]; exact w0) fin _ (by rw [zi_t]; rw [decide_eq_true_iff]; exact (nI_eq (b := 0) (by omega) (by decide)).mp g)
  refine gX0_hear_0 (vp_in_nI hp (by decide)) (fun g => gX0_hear_21 ?_) (fun g => gX0_hear_17 ?_)
  · rw [cp, y1]
    exact s1 _ (by rw [zi_f]; rw [decide_eq_true_iff]; exact fun e => g (by rw [e]; rfl))
  · rw [cp, y1]
    exact s1 _ (by rw [zi_t]; rw [decide_eq_true_iff]; exact (nI_eq (b := 1) (by omega) (by decide)).mp g)
/-- what was told, in the class's places -/
def zc_2 (a : zs_A) (w : zm_S) : Prop := w.1 2 8 = nI (a.1 1 0) ∧ ∀ k, k < a.1 1 0 → w.1 3 k = nI (a.1 2 k) ∧ w.1 4 k = nI (a.1 3 k) ∧ w.1 5 k = nI (a.1 4 k) ∧ w.1 6 k = nI (a.1 5 k)
theorem zs_say_hr (a : zs_A) (k : Nat) (hc : a.1 5 k ≤ a.1 0 1) : (fun p q => zs_say a p q (k + 1)) = zs_hr (fun p q => zs_say a p q k) (a.1 2 k) (a.1 3 k) (a.1 4 k) := by
  funext p q
  unfold zs_hr
  rw [zs_say]
  by_cases c : p = a.1 2 k ∧ q = a.1 3 k
  · rw [if_pos c, if_pos ⟨c.1.symm, c.2.symm, hc⟩]
  · rw [if_neg c, if_neg (fun z => c ⟨z.1.symm, z.2.1.symm⟩)]
theorem zs_time_mono {a : zs_A} (h : zs_ok a) {i : Nat} : ∀ m, i + m < a.1 1 0 → a.1 5 i ≤ a.1 5 (i + m)
  | 0, _ => Nat.le_refl _
  | m + 1, hm => Nat.le_trans (zs_time_mono h m (by omega)) (h.2.1.2.2 (i + m) (by omega))
theorem zs_say_late {a : zs_A} (h : zs_ok a) {i : Nat} (hi : a.1 0 1 < a.1 5 i) (p q : Nat) : ∀ m, i + m ≤ a.1 1 0 → zs_say a p q (i + m) = zs_say a p q i
  | 0, _ => rfl
  | m + 1, hm => by
    have := zs_time_mono h (i := i) m (by omega)
    rw [← Nat.add_assoc, zs_say, if_neg (by omega), zs_say_late h hi p q m (by omega)]
theorem l_countAnew {d : Nat} {b : zs_A} (hb : zs_ok b) {w : zm_S} : ∀ (m k : Nat) (u : zm_S), k + m = b.1 1 0 → zc_2 b u → u.1 2 11 = nI (b.1 0 1) → zc_F (fun p q => zs_say b p q k) u → zm_F 7 10 w u → zm_T zc_H (d + 2) mX0_countAnew (zp .null (fun u => zc_F (zs_S b) u ∧ zm_F 7 10 w u)) 56 [(0, .ref 2), (3, .int (nI k))] [] u := by
  intro m
  induction m with
  | zero =>
    intro k u hk h2 h11 hF hK
    obtain rfl : k = b.1 1 0 := by omega
    exact gX0_countAnew_56 (fun _ => gX0_countAnew_105 ⟨rfl, hF, hK⟩) (fun q => absurd (by rw [h2.1]; exact Int32.le_refl _) q)
  | succ m ih =>
    intro k u hk h2 h11 hF hK
    have ht := hb.2.1.1
    obtain ⟨e1, e2, e3, e4⟩ := h2.2 k (by omega)
    obtain ⟨c1, c2, c3, c4⟩ := hb.2.1.2.1 k (by omega)
    have hn := hb.1
    have cc : (nI k).toNatClampNeg = k := zx_clamp (by omega)
    refine gX0_countAnew_56 (fun q => absurd q (by rw [h2.1]; exact nI_ge (by omega) (by omega))) (fun _ => ?_)
    refine gX0_countAnew_64 (vp_in_nI (by omega) (by decide)) (fun g => gX0_countAnew_105 ?_) (fun g => ?_)
    · rw [cc, h11, e4, nI_ltI (by omega) (by omega)] at g
      refine ⟨rfl, ?_, hK⟩
      have : zs_S b = fun p q => zs_say b p q k := by
        funext p q
        unfold zs_S
        have := zs_say_late hb g p q (m + 1) (by omega)
        rw [hk] at this
        exact this
      rw [this]
      exact hF
    · rw [cc, h11, e4, nI_ltI (by omega) (by omega)] at g
      refine gX0_countAnew_77 (vp_in_nI (by omega) (by decide)) (vp_in_nI (by omega) (by decide)) (vp_in_nI (by omega) (by decide)) (by rw [cc, e1, e2, e3]; exact k_hear hF c1 c2 c3) (zp_v (fun z hz => gX0_countAnew_99 ?_))
      rw [nI_1]
      have k2 := hz.2.1 2 (by omega)
      refine ih (k + 1) z (by omega) ⟨by rw [k2]; exact h2.1, fun j hj => ?_⟩ (by rw [k2]; exact h11) (by rw [zs_say_hr b k (by omega)]; exact hz.1) ⟨fun j hj => by rw [hz.2.1 j hj]; exact hK.1 j hj, by rw [hz.2.2]; exact hK.2⟩
      rw [hz.2.1 3 (by omega), hz.2.1 4 (by omega), hz.2.1 5 (by omega), hz.2.1 6 (by omega)]
      exact h2.2 j hj
theorem zb_none : ∀ m, zb (fun _ => false) m = 0
  | 0 => rfl
  | m + 1 => by rw [zb, zb_none m]; simp
theorem k_countAnew {d : Nat} {b : zs_A} (hb : zs_ok b) {w : zm_S} (h2 : zc_2 b w) : zm_C zc_H (d + 2) mX0_countAnew [.ref 2, .int (nI (b.1 0 0)), .int (nI (b.1 0 1))] w (zp .null (fun u => zc_A b u ∧ zc_2 b u ∧ u.1 2 11 = nI (b.1 0 1) ∧ (∀ k, k ≠ 2 → k < 7 ∨ 10 < k → u.1 k = w.1 k) ∧ u.2 = w.2)) := by
  refine zm_C.of mtX0_countAnew.1.2.2.2.2.2.2 rfl (Nat.le_of_ble_eq_true rfl) ?_
  have hn := hb.1
  refine gX0_countAnew_0 (k_fill (o := 7) (n := 12) (by decide) rfl 0 _) (zp_v (fun u1 h1 => ?_))
  refine gX0_countAnew_30 (k_fill (o := 8) (n := 12) (by decide) rfl 0 _) (zp_v (fun u2 h2' => ?_))
  refine gX0_countAnew_38 (k_fill (o := 9) (n := 7) (by decide) rfl 0 _) (zp_v (fun u3 h3 => ?_))
  refine gX0_countAnew_46 (k_fill (o := 10) (n := 7) (by decide) rfl 0 _) (zp_v (fun u4 h4 => gX0_countAnew_54 ?_))
  have k4 : ∀ k, k ≠ 2 → k < 7 ∨ 10 < k → u4.1 k = w.1 k := by
    intro k hk2 hk
    rw [h4.1.1 k (by omega), h3.1.1 k (by omega), h2'.1.1 k (by omega), h1.1.1 k (by omega), zm_pa_ne hk2, zm_pa_ne hk2, zm_pa_ne hk2]
  have e2 : u4.1 2 = upd (upd (upd (w.1 2) 9 (nI (b.1 0 0))) 10 (nI (2 ^ b.1 0 0 - 1))) 11 (nI (b.1 0 1)) := by
    rw [h4.1.1 2 (by decide), h3.1.1 2 (by decide), h2'.1.1 2 (by decide), h1.1.1 2 (by decide), zm_pa_at, zm_pa_at, zm_pa_at, zy_whole _ (by omega)]
  have c2 : zc_2 b u4 := by
    refine ⟨by rw [e2, pk_un (by decide), pk_un (by decide), pk_un (by decide)]; exact h2.1, fun k hk => ?_⟩
    rw [k4 3 (by decide) (by decide), k4 4 (by decide) (by decide), k4 5 (by decide) (by decide), k4 6 (by decide) (by decide)]
    exact h2.2 k hk
  have h11 : u4.1 2 11 = nI (b.1 0 1) := by rw [e2, pk_us]
  have z7 : ∀ x, x < 2 → ∀ p, zs_sb (fun p q => zs_say b p q 0) x p = 0 := by
    intro x hx p
    unfold zs_sb
    rw [show (fun q => decide (zs_say b p q 0 = x)) = fun _ => false from funext (fun q => decide_eq_false (by rw [zs_say]; omega)), zb_none]
  have z12 : ∀ x, x < 2 → ∀ q, zs_sw2 (fun p q => zs_say b p q 0) x q = 0 := by
    intro x hx q
    unfold zs_sw2
    rw [show (fun p => decide (zs_say b p q 0 = x)) = fun _ => false from funext (fun q => decide_eq_false (by rw [zs_say]; omega)), zb_none]
  have hF : zc_F (fun p q => zs_say b p q 0) u4 := by
    refine ⟨fun p hp => ⟨?_, ?_⟩, fun q hq => ⟨?_, ?_⟩⟩
    · rw [z7 1 (by decide), h4.1.1 7 (by decide), h3.1.1 7 (by decide), h2'.1.1 7 (by decide), h1.2 p hp]; rfl
    · rw [z7 0 (by decide), h4.1.1 8 (by decide), h3.1.1 8 (by decide), h2'.2 p hp]; rfl
    · rw [z12 1 (by decide), h4.1.1 9 (by decide), h3.2 q hq]; rfl
    · rw [z12 0 (by decide), h4.2 q hq]; rfl
  refine zm_T.post (fun r u hu => ?_) (l_countAnew (d := d) hb (w := u4) (b.1 1 0) 0 u4 (by omega) c2 h11 hF ⟨fun _ _ => rfl, rfl⟩)
  obtain ⟨hr, hF2, hK⟩ := hu
  have k2 := hK.1 2 (by omega)
  refine ⟨hr, ⟨hb, by rw [k2, e2, pk_un (by decide), pk_un (by decide), pk_us], by rw [k2, e2, pk_un (by decide), pk_us], hF2⟩, ⟨by rw [k2]; exact c2.1, fun k hk => ?_⟩, by rw [k2]; exact h11, fun k hk2 hk => ?_, ?_⟩
  · rw [hK.1 3 (by omega), hK.1 4 (by omega), hK.1 5 (by omega), hK.1 6 (by omega)]
    exact c2.2 k hk
  · rw [hK.1 k (by omega)]; exact k4 k hk2 hk
  · rw [hK.2, h4.1.2, h3.1.2, h2'.1.2, h1.1.2]; rfl
theorem k_isFull {d : Nat} {a : zs_A} {w : zm_S} (ha : zs_ok a) (h : zc_2 a w) : zm_C zc_H d mX0_isFull [.ref 2] w (zq (.int (zi (a.1 1 0 = 160))) w) := by
  refine zm_C.of mtX0_isFull.1.2.2.2.2.2.2 rfl (Nat.le_of_ble_eq_true rfl) ?_
  have ht := ha.2.1.1
  refine gX0_isFull_0 (fun g => gX0_isFull_14 ?_) (fun g => gX0_isFull_10 ?_)
  · rw [h.1, show (160 : Int32) = nI 160 from rfl, nI_ltI (by omega) (by omega)] at g
    rw [zi_f (by omega)]; exact zq_m _ _
  · rw [h.1, show (160 : Int32) = nI 160 from rfl, nI_ltI (by omega) (by omega)] at g
    rw [zi_t (by omega)]; exact zq_m _ _
theorem k_timeFits {d : Nat} {a : zs_A} {w : zm_S} (ha : zs_ok a) (h : zc_2 a w) (tm : Int32) : zm_C zc_H d mX0_timeFits [.ref 2, .int tm] w (zq (.int (zi (nI (zs_lt a) ≤ tm ∧ tm ≤ 999))) w) := by
  refine zm_C.of mtX0_timeFits.1.2.2.2.2.2.2 rfl (Nat.le_of_ble_eq_true rfl) ?_
  have ht := ha.2.1.1
  have hl := zs_lt_le ha
  have no : ¬ (nI (zs_lt a) ≤ tm ∧ tm ≤ 999) → zm_T zc_H d mX0_timeFits (zq (.int (zi (nI (zs_lt a) ≤ tm ∧ tm ≤ 999))) w) 37 [] [] w := fun c => gX0_timeFits_37 (by rw [zi_f c]; exact zq_m _ _)
  refine gX0_timeFits_0 (fun g => no (fun c => ?_)) (fun g => ?_)
  · have c1 := c.1
    rw [fa_le, nI_toInt (by omega)] at c1
    rw [fa_lt] at g
    have : (0 : Int32).toInt = 0 := rfl
    omega
  refine gX0_timeFits_4 (fun g2 => no (fun c => absurd c.2 (Int32.not_le.mpr g2))) (fun g2 => ?_)
  refine gX0_timeFits_11 (fun g3 => gX0_timeFits_33 ?_) (fun g3 => ?_)
  · rw [h.1] at g3
    have g4 : a.1 1 0 = 0 := (nI_eq (b := 0) (by omega) (by decide)).mp g3
    rw [zi_t ⟨by rw [zs_lt, if_pos g4]; exact Int32.not_lt.mp g, Int32.not_lt.mp g2⟩]
    exact zq_m _ _
  · rw [h.1] at g3
    have g4 : ¬ a.1 1 0 = 0 := fun q => g3 (by rw [q]; rfl)
    have e : nI (a.1 1 0) - 1 = nI (a.1 1 0 - 1) := pk_sub (b := 1) (by omega)
    have e6 : w.1 6 (a.1 1 0 - 1) = nI (zs_lt a) := by rw [zs_lt, if_neg g4]; exact (h.2 _ (by omega)).2.2.2
    refine gX0_timeFits_18 (by rw [h.1, e]; exact vp_in_nI (by omega) (by decide)) (fun g5 => no ?_) (fun g5 => gX0_timeFits_33 ?_)
    · rw [h.1, e, zx_clamp (by omega), e6] at g5
      exact fun c => absurd c.1 (Int32.not_le.mpr g5)
    · rw [h.1, e, zx_clamp (by omega), e6] at g5
      rw [zi_t ⟨Int32.not_lt.mp g5, Int32.not_lt.mp g2⟩]
      exact zq_m _ _
theorem zx_nb : ∀ p, p < 12 → vp_nar .byte ((nI p).toInt8.toInt32) = nI p := by decide +kernel
theorem zx_ns : ∀ p, p < 1000 → vp_nar .short ((nI p).toInt16.toInt32) = nI p := by decide +kernel
theorem zs_tell_say (a : zs_A) (p q x tm p' q' : Nat) : ∀ k, k ≤ a.1 1 0 → zs_say (zs_tell a p q x tm) p' q' k = zs_say a p' q' k
  | 0, _ => rfl
  | k + 1, hk => by
    rw [zs_say, zs_say, zs_tell_say a p q x tm p' q' k (by omega)]
    have e : k ≠ a.1 1 0 := by omega
    simp [zs_tell, zs_u, e]
theorem zs_tell_S (a : zs_A) (p q x tm : Nat) : zs_S (zs_tell a p q x tm) = if tm ≤ a.1 0 1 then zs_hr (zs_S a) p q x else zs_S a := by
  funext p' q'
  unfold zs_S
  rw [zs_tell_t, zs_say, zs_tell_say a p q x tm p' q' _ (Nat.le_refl _)]
  have e : ((zs_tell a p q x tm).1 2 (a.1 1 0) = p' ∧ (zs_tell a p q x tm).1 3 (a.1 1 0) = q' ∧ (zs_tell a p q x tm).1 5 (a.1 1 0) ≤ (zs_tell a p q x tm).1 0 1) ↔ (p = p' ∧ q = q' ∧ tm ≤ a.1 0 1) := by simp [zs_tell, zs_u]
  have e4 : (zs_tell a p q x tm).1 4 (a.1 1 0) = x := by simp [zs_tell, zs_u]
  rw [e4]
  by_cases c : tm ≤ a.1 0 1
  · rw [if_pos c]
    unfold zs_hr
    by_cases c2 : p' = p ∧ q' = q
    · rw [if_pos c2, if_pos (e.mpr ⟨c2.1.symm, c2.2.symm, c⟩)]
    · rw [if_neg c2, if_neg (fun z => c2 ⟨(e.mp z).1.symm, (e.mp z).2.1.symm⟩)]
  · rw [if_neg c, if_neg (fun z => c (e.mp z).2.2)]
theorem zc_told {a : zs_A} {w : zm_S} (h2 : zc_2 a w) {p q x tm : Nat} : zc_2 (zs_tell a p q x tm) (zm_pi (zm_pi (zm_pi (zm_pi (zm_pi w 3 (a.1 1 0) (nI p)) 4 (a.1 1 0) (nI q)) 5 (a.1 1 0) (nI x)) 6 (a.1 1 0) (nI tm)) 2 8 (nI (a.1 1 0 + 1))) := by
  refine ⟨by rw [zm_pa_at, pk_us, zs_tell_t], fun k hk => ?_⟩
  rw [zs_tell_t] at hk
  rw [zm_pa_ne (by decide), zm_pa_ne (by decide), zm_pa_ne (by decide), zm_pa_ne (by decide), zm_pa_at, zm_pa_ne (by decide), zm_pa_ne (by decide), zm_pa_ne (by decide), zm_pa_at, zm_pa_ne (by decide), zm_pa_ne (by decide), zm_pa_ne (by decide), zm_pa_at, zm_pa_ne (by decide), zm_pa_ne (by decide), zm_pa_ne (by decide), zm_pa_at, zm_pa_ne (by decide), zm_pa_ne (by decide), zm_pa_ne (by decide)]
  by_cases c : k = a.1 1 0
  · subst c
    rw [pk_us, pk_us, pk_us, pk_us]
    simp [zs_tell, zs_u]
  · rw [pk_un c, pk_un c, pk_un c, pk_un c]
    have := h2.2 k (by omega)
    simp [zs_tell, zs_u, c]
    exact this
theorem k_tell {d : Nat} {a : zs_A} {w : zm_S} (h : zc_A a w) (h2 : zc_2 a w) (h11 : w.1 2 11 = nI (a.1 0 1)) {p q x tm : Nat} (hp : p < 12) (hq : q < 7) (hx : x < 3) (ht1 : zs_lt a ≤ tm) (ht2 : tm ≤ 999) (hf : a.1 1 0 ≠ 160) : zm_C zc_H (d + 2) mX0_tell [.ref 2, .int (nI p), .int (nI q), .int (nI x), .int (nI tm)] w (zp .null (fun u => zc_A (zs_tell a p q x tm) u ∧ zc_2 (zs_tell a p q x tm) u ∧ u.1 2 11 = nI (a.1 0 1) ∧ (∀ k, k < 2 ∨ 10 < k → u.1 k = w.1 k) ∧ u.2 = w.2)) := by
  refine zm_C.of mtX0_tell.1.2.2.2.2.2.2 rfl (Nat.le_of_ble_eq_true rfl) ?_
  have ht := h.1.2.1.1
  have hn := h.1.1
  have hok := zs_tell_ok h.1 hp hq hx ht1 ht2 hf
  refine gX0_tell_0 (k_isFull h.1 h2) (zq_i ?_)
  refine gX0_tell_4 (fun _ => ?_) (fun g => absurd (zi_n0.mp g) hf)
  have hin : vp_in (w.1 2 8) 160 := by rw [h2.1]; exact vp_in_nI (by omega) (by decide)
  have e00 : (zs_tell a p q x tm).1 0 = a.1 0 := by funext i; simp [zs_tell, zs_u]
  have hz2 := zc_told h2 (p := p) (q := q) (x := x) (tm := tm)
  have hz2e : ∀ j, j ≠ 8 → (zm_pi (zm_pi (zm_pi (zm_pi (zm_pi w 3 (a.1 1 0) (nI p)) 4 (a.1 1 0) (nI q)) 5 (a.1 1 0) (nI x)) 6 (a.1 1 0) (nI tm)) 2 8 (nI (a.1 1 0 + 1))).1 2 j = w.1 2 j := fun j hj => by
    rw [zm_pa_at, pk_un hj, zm_pa_ne (by decide), zm_pa_ne (by decide), zm_pa_ne (by decide), zm_pa_ne (by decide)]
  have hzk : ∀ k, k < 2 ∨ 6 < k → (zm_pi (zm_pi (zm_pi (zm_pi (zm_pi w 3 (a.1 1 0) (nI p)) 4 (a.1 1 0) (nI q)) 5 (a.1 1 0) (nI x)) 6 (a.1 1 0) (nI tm)) 2 8 (nI (a.1 1 0 + 1))).1 k = w.1 k := fun k hk => by
    rw [zm_pa_ne (by omega), zm_pa_ne (by omega), zm_pa_ne (by omega), zm_pa_ne (by omega), zm_pa_ne (by omega)]
  have hzl : (zm_pi (zm_pi (zm_pi (zm_pi (zm_pi w 3 (a.1 1 0) (nI p)) 4 (a.1 1 0) (nI q)) 5 (a.1 1 0) (nI x)) 6 (a.1 1 0) (nI tm)) 2 8 (nI (a.1 1 0 + 1))).2 = w.2 := rfl
  refine gX0_tell_8 hin hin hin hin ?_ ?_
  all_goals
    rw [h2.1, zx_clamp (by omega), zx_nb p hp, zx_nb q (by omega), zx_nb x (by omega), zx_ns tm (by omega), h11, nI_1]
    generalize zm_pi (zm_pi (zm_pi (zm_pi (zm_pi w 3 (a.1 1 0) (nI p)) 4 (a.1 1 0) (nI q)) 5 (a.1 1 0) (nI x)) 6 (a.1 1 0) (nI tm)) 2 8 (nI (a.1 1 0 + 1)) = z at hz2 hz2e hzk hzl ⊢
    intro g
    rw [nI_ltI (by omega) (by omega)] at g
  · refine gX0_tell_79 ⟨rfl, ⟨hok, ?_, ?_, ?_⟩, hz2, ?_, fun k hk => hzk k (by omega), hzl⟩
    · rw [hz2e 9 (by decide), e00]; exact h.2.1
    · rw [hz2e 10 (by decide), e00]; exact h.2.2.1
    · rw [zs_tell_S, if_neg (by omega)]
      exact ⟨fun p' hp' => by rw [hzk 7 (by omega), hzk 8 (by omega)]; exact h.2.2.2.1 p' hp', fun q' hq' => by rw [hzk 9 (by omega), hzk 10 (by omega)]; exact h.2.2.2.2 q' hq'⟩
    · rw [hz2e 11 (by decide)]; exact h11
  · refine gX0_tell_72 (k_hear (f := zs_S a) ⟨fun p' hp' => by rw [hzk 7 (by omega), hzk 8 (by omega)]; exact h.2.2.2.1 p' hp', fun q' hq' => by rw [hzk 9 (by omega), hzk 10 (by omega)]; exact h.2.2.2.2 q' hq'⟩ hp hq hx) (zp_v (fun u hu => gX0_tell_79 ?_))
    have k2 := hu.2.1 2 (by omega)
    refine ⟨rfl, ⟨hok, ?_, ?_, ?_⟩, ⟨?_, fun k hk => ?_⟩, ?_, fun k hk => ?_, ?_⟩
    · rw [k2, hz2e 9 (by decide), e00]; exact h.2.1
    · rw [k2, hz2e 10 (by decide), e00]; exact h.2.2.1
    · rw [zs_tell_S, if_pos (by omega)]; exact hu.1
    · rw [k2]; exact hz2.1
    · rw [hu.2.1 3 (by omega), hu.2.1 4 (by omega), hu.2.1 5 (by omega), hu.2.1 6 (by omega)]; exact hz2.2 k hk
    · rw [k2, hz2e 11 (by decide)]; exact h11
    · rw [hu.2.1 k (by omega)]; exact hzk k (by omega)
    · rw [hu.2.2]; exact hzl
