/-! ===== the text, read ===== -/
def zc_X (b : zs_A) (w : zm_S) : Prop := w.1 11 3 = nI (b.1 6 0) ∧ ∀ k, k < b.1 6 0 → w.1 12 k = nI (b.1 7 k)
/-- a reading under way -/
def zr_W (b : zs_A) (w u : zm_S) (c : Nat) (tn R : Nat → Nat) : Prop := zc_X b u ∧ u.1 11 4 = nI c ∧ (∀ q, q < 7 → u.1 13 q = nI (tn q) ∧ u.1 14 q = nI (R q)) ∧ (∀ q, q < 7 → tn q < 128 ∧ R q < 128) ∧ zr_I tn R ∧ (∀ k, k ≠ 11 → k ≠ 13 → k ≠ 14 → u.1 k = w.1 k) ∧ u.2 = w.2
theorem k_letterAt {d : Nat} {b : zs_A} (hb : zs_ok b) {w : zm_S} (h : zc_X b w) {i : Nat} (hi : i < 100) : zm_C zc_H d mX2_letterAt [.ref 11, .int (nI i)] w (zq (.int (zs_fl (zs_let b i))) w) := by
  refine zm_C.of mtX2_letterAt.1.2.2.2.2.2.2 rfl (Nat.le_of_ble_eq_true rfl) ?_
  have hl := hb.2.2.1.1
  have no : zs_let b i = none → zm_T zc_H d mX2_letterAt (zq (.int (zs_fl (zs_let b i))) w) 30 [] [] w := fun c => gX2_letterAt_30 (by rw [c]; exact zq_m _ _)
  refine gX2_letterAt_0 (fun g => no ?_) (fun g => ?_)
  · rw [h.1, nI_leI (by omega) (by omega)] at g
    rw [zs_let, if_neg (by omega)]
  · rw [h.1, nI_leI (by omega) (by omega)] at g
    have h256 := hb.2.2.1.2 i (by omega)
    have e : w.1 12 (nI i).toNatClampNeg = nI (b.1 7 i) := by rw [zx_clamp (by omega)]; exact h.2 i (by omega)
    refine gX2_letterAt_8 (vp_in_nI (by omega) (by decide)) (fun g2 => no ?_) (fun g2 => ?_)
    · rw [e, show (97 : Int32) = nI 97 from rfl, nI_ltI (by omega) (by omega)] at g2
      rw [zs_let, if_neg (by omega)]
    · rw [e, show (97 : Int32) = nI 97 from rfl, nI_ltI (by omega) (by omega)] at g2
      refine gX2_letterAt_19 (vp_in_nI (by omega) (by decide)) (fun g3 => gX2_letterAt_32 (vp_in_nI (by omega) (by decide)) ?_) (fun g3 => no ?_)
      · rw [e, show (103 : Int32) = nI 103 from rfl, nI_leI (by omega) (by omega)] at g3
        rw [e, zs_let, if_pos ⟨by omega, by omega, g3⟩, show nI (b.1 7 i) - 97 = nI (b.1 7 i - 97) from pk_sub (b := 97) (by omega)]
        exact zq_m _ _
      · rw [e, show (103 : Int32) = nI 103 from rfl, nI_leI (by omega) (by omega)] at g3
        rw [zs_let, if_neg (by omega)]
theorem k_closesCircle {d : Nat} {b : zs_A} {w u : zm_S} {c : Nat} {tn R : Nat → Nat} (h : zr_W b w u c tn R) {x y : Nat} (hx : x < 7) (hy : y < 7) : zm_C zc_H d mX2_closesCircle [.ref 11, .int (nI x), .int (nI y)] u (zq (.int (zi ((zs_ahr tn 7 (2 ^ x)).testBit y = true))) u) := by
  refine zm_C.of mtX2_closesCircle.1.2.2.2.2.2.2 rfl (Nat.le_of_ble_eq_true rfl) ?_
  have hk := zr_ah h.2.2.2.2.1 (fun q hq => (h.2.2.2.1 q hq).1) hx hy
  have hR := (h.2.2.2.1 x hx).2
  refine gX2_closesCircle_0 (fun g => gX2_closesCircle_18 ?_) (fun g => ?_)
  · rw [nI_eq (by omega) (by omega)] at g
    rw [zi_t (hk.mpr (Or.inl g.symm))]; exact zq_m _ _
  · rw [nI_eq (by omega) (by omega)] at g
    refine gX2_closesCircle_5 (vp_in_nI hx (by decide)) (fun g2 => gX2_closesCircle_22 ?_) (fun g2 => gX2_closesCircle_18 ?_)
    · rw [zx_clamp (by omega), (h.2.2.1 x hx).2, zy_tb (by omega) (by omega)] at g2
      rw [zi_f]; exact zq_m _ _
      rw [hk]
      rintro (e | e)
      · exact g e.symm
      · rw [g2] at e; cases e
    · rw [zx_clamp (by omega), (h.2.2.1 x hx).2, zy_tb (by omega) (by omega)] at g2
      rw [zi_t (hk.mpr (Or.inr (by simpa using g2)))]; exact zq_m _ _
theorem zx_flne {o : Option Nat} (h : ∀ q, o = some q → q < 100) : (zs_fl o = -1) ↔ o = none := by
  cases o with
  | none => exact ⟨fun _ => rfl, fun _ => rfl⟩
  | some j =>
    refine ⟨fun q => ?_, fun q => by cases q⟩
    have := h j rfl
    have q2 := congrArg Int32.toInt q
    rw [show zs_fl (some j) = nI j from rfl, nI_toInt (by omega), show (-1 : Int32).toInt = -1 from rfl] at q2
    omega
def zs_pf (b : zs_A) (tn : Nat → Nat) (i : Nat) : Option Nat := match zs_part b tn i with
  | .inl j => some j
  | .inr _ => none
theorem k_faultOfPart {d : Nat} {b : zs_A} (hb : zs_ok b) {w u : zm_S} {c : Nat} {tn R : Nat → Nat} (h : zr_W b w u c tn R) {i : Nat} (hi : i < 90) : zm_C zc_H (d + 1) mX2_faultOfPart [.ref 11, .int (nI i)] u (zq (.int (zs_fl (zs_pf b tn i))) u) := by
  refine zm_C.of mtX2_faultOfPart.1.2.2.2.2.2.2 rfl (Nat.le_of_ble_eq_true rfl) ?_
  have hl := hb.2.2.1.1
  have lt : ∀ j q, zs_let b j = some q → q < 100 := fun j q hq => by have := (zs_let_lt hq).1; omega
  have e1 : nI i + 1 = nI (i + 1) := nI_1 _
  have e2 : nI i + 2 = nI (i + 2) := by rw [show (2 : Int32) = nI 2 from rfl, nI_add]
  refine gX2_faultOfPart_0 (k_letterAt hb h.1 (by omega)) (zq_i ?_)
  refine gX2_faultOfPart_5 (fun g => ?_) (fun g => gX2_faultOfPart_9 ?_)
  rotate_left
  · rw [zx_flne (lt i)] at g
    rw [show zs_pf b tn i = some i by unfold zs_pf zs_part; rw [g]]; exact zq_m _ _
  rw [zx_flne (lt i)] at g
  cases hx : zs_let b i with
  | none => exact absurd hx g
  | some x =>
    have hx7 := (zs_let_lt hx).1
    have bad1 : ¬ (i + 1 < b.1 6 0 ∧ b.1 7 (i + 1) = 60) → zm_T zc_H (d + 1) mX2_faultOfPart (zq (.int (zs_fl (zs_pf b tn i))) u) 34 [(1, .int (nI i))] [] u := by
      intro c
      refine gX2_faultOfPart_34 ?_
      rw [show zs_pf b tn i = some (i + 1) by unfold zs_pf zs_part; rw [hx]; simp only; rw [if_neg c], e1]; exact zq_m _ _
    refine gX2_faultOfPart_11 (fun g2 => bad1 ?_) (fun g2 => ?_)
    · rw [e1, h.1.1, nI_leI (by omega) (by omega)] at g2; omega
    · rw [e1, h.1.1, nI_leI (by omega) (by omega)] at g2
      have h256 := hb.2.2.1.2 (i + 1) (by omega)
      have e12 : u.1 12 (nI i + 1).toNatClampNeg = nI (b.1 7 (i + 1)) := by rw [e1, zx_clamp (by omega)]; exact h.1.2 _ (by omega)
      refine gX2_faultOfPart_21 (by rw [e1]; exact vp_in_nI (by omega) (by decide)) (fun g3 => ?_) (fun g3 => bad1 ?_)
      rotate_left
      · rw [e12] at g3
        exact fun c => g3 (by rw [c.2]; rfl)
      rw [e12, show (60 : Int32) = nI 60 from rfl, nI_eq (by omega) (by omega)] at g3
      have ep : zs_pf b tn i = match zs_let b (i + 2) with
          | none => some (i + 2)
          | some y => if (zs_ahr tn 7 (2 ^ x)).testBit y then some (i + 2) else none := by
        unfold zs_pf zs_part
        rw [hx]
        simp only
        rw [if_pos ⟨by omega, g3⟩]
        cases hy : zs_let b (i + 2) with
        | none => rfl
        | some y =>
          simp only
          by_cases c : (zs_ahr tn 7 (2 ^ x)).testBit y = true
          · rw [if_pos c, if_pos c]
          · rw [if_neg c, if_neg c]
      have hL2 := k_letterAt (d := d) hb h.1 (i := i + 2) (by omega)
      refine gX2_faultOfPart_38 (by rw [e2]; exact hL2) (zq_i ?_)
      refine gX2_faultOfPart_45 (fun g4 => gX2_faultOfPart_68 ?_) (fun g4 => ?_)
      · rw [zx_flne (lt _)] at g4
        rw [ep, g4, e2]; exact zq_m _ _
      · rw [zx_flne (lt _)] at g4
        cases hy : zs_let b (i + 2) with
        | none => exact absurd hy g4
        | some y =>
          have hy7 := (zs_let_lt hy).1
          rw [hy] at ep
          simp only at ep
          refine gX2_faultOfPart_49 (k_letterAt hb h.1 (by omega)) (zq_i ?_)
          refine gX2_faultOfPart_55 (by rw [e2]; exact hL2) (zq_i ?_)
          rw [hx, hy]
          refine gX2_faultOfPart_62 (k_closesCircle h hx7 hy7) (zq_i ?_)
          refine gX2_faultOfPart_65 (fun g5 => gX2_faultOfPart_72 ?_) (fun g5 => gX2_faultOfPart_68 ?_)
          · rw [ep, if_neg (zi_0.mp g5)]; exact zq_m _ _
          · rw [ep, if_pos (zi_n0.mp g5), e2]; exact zq_m _ _
theorem zr_up_lt {R : Nat → Nat} (h : ∀ q, q < 7 → R q < 128) {x y : Nat} (hx : x < 7) : ∀ q, q < 7 → zr_up R x y q < 128 := by
  intro q hq
  unfold zr_up
  split
  · exact zy_or_lt (h q hq) (zy_or_lt (h x hx) (zy_lt hx))
  · exact h q hq
theorem l_tellPart {d : Nat} {b : zs_A} {w : zm_S} {c : Nat} {tn R : Nat → Nat} (hR : ∀ q, q < 7 → R q < 128) {x y : Nat} (hx : x < 7) (hy : y < 7) {Q : Value → zm_S → Prop} (hQ : ∀ u, zc_X b u → u.1 11 4 = nI c → (∀ q, q < 7 → u.1 13 q = nI (tn q) ∧ u.1 14 q = nI (zr_up R x y q)) → (∀ k, k ≠ 11 → k ≠ 13 → k ≠ 14 → u.1 k = w.1 k) → u.2 = w.2 → zm_T zc_H d mX2_tellPart Q 79 [(0, .ref 11)] [] u) : ∀ (m k : Nat) (u : zm_S), k + m = 7 → zc_X b u → u.1 11 4 = nI c → (∀ q, q < 7 → u.1 13 q = nI (tn q) ∧ u.1 14 q = nI (if q < k then zr_up R x y q else R q)) → (∀ k, k ≠ 11 → k ≠ 13 → k ≠ 14 → u.1 k = w.1 k) → u.2 = w.2 → zm_T zc_H d mX2_tellPart Q 35 [(0, .ref 11), (2, .int (nI y)), (3, .int (nI (R x ||| 2 ^ x))), (4, .int (nI k))] [] u := by
  intro m
  induction m with
  | zero =>
    intro k u hk h1 h2 h3 h4 h5
    obtain rfl : k = 7 := by omega
    refine gX2_tellPart_35 (fun _ => hQ u h1 h2 (fun q hq => ?_) h4 h5) (fun q => absurd (by decide) q)
    have := h3 q hq
    rw [if_pos hq] at this
    exact this
  | succ m ih =>
    intro k u hk h1 h2 h3 h4 h5
    have hRk := hR k (by omega)
    have e14 : u.1 14 (nI k).toNatClampNeg = nI (R k) := by rw [zx_clamp (by omega), (h3 k (by omega)).2, if_neg (by omega)]
    refine gX2_tellPart_35 (fun q => absurd q (nI_ge (b := 7) (by omega) (by omega))) (fun _ => ?_)
    have skip : ¬ (k = y ∨ (R k).testBit y = true) → zm_T zc_H d mX2_tellPart Q 73 [(0, .ref 11), (2, .int (nI y)), (3, .int (nI (R x ||| 2 ^ x))), (4, .int (nI k))] [] u := by
      intro c
      refine gX2_tellPart_73 ?_
      rw [nI_1]
      refine ih (k + 1) u (by omega) h1 h2 (fun q hq => ⟨(h3 q hq).1, ?_⟩) h4 h5
      rw [(h3 q hq).2]
      by_cases z : q = k
      · rw [z, if_neg (by omega), if_pos (by omega), zr_up, if_neg c]
      · by_cases z2 : q < k
        · rw [if_pos z2, if_pos (by omega)]
        · rw [if_neg z2, if_neg (by omega)]
    have take : (k = y ∨ (R k).testBit y = true) → zm_T zc_H d mX2_tellPart Q 62 [(0, .ref 11), (2, .int (nI y)), (3, .int (nI (R x ||| 2 ^ x))), (4, .int (nI k))] [] u := by
      intro c
      refine gX2_tellPart_62 (vp_in_nI (by omega) (by decide)) (vp_in_nI (by omega) (by decide)) (gX2_tellPart_73 ?_)
      rw [nI_1, e14, fa_or, zx_clamp (by omega)]
      refine ih (k + 1) _ (by omega) ⟨by rw [zm_pa_ne (by decide)]; exact h1.1, fun j hj => by rw [zm_pa_ne (by decide)]; exact h1.2 j hj⟩ (by rw [zm_pa_ne (by decide)]; exact h2) (fun q hq => ⟨by rw [zm_pa_ne (by decide)]; exact (h3 q hq).1, ?_⟩) (fun j q1 q2 q3 => by rw [zm_pa_ne q3]; exact h4 j q1 q2 q3) h5
      rw [zm_pa_at]
      by_cases z : q = k
      · rw [z, pk_us, if_pos (by omega), zr_up, if_pos c]
      · rw [pk_un z, (h3 q hq).2]
        by_cases z2 : q < k
        · rw [if_pos z2, if_pos (by omega)]
        · rw [if_neg z2, if_neg (by omega)]
    refine gX2_tellPart_42 (fun g => take ?_) (fun g => ?_)
    · rw [nI_eq (by omega) (by omega)] at g; exact Or.inl g
    · rw [nI_eq (by omega) (by omega)] at g
      refine gX2_tellPart_48 (vp_in_nI (by omega) (by decide)) (fun g2 => skip ?_) (fun g2 => take ?_)
      · rw [e14, zy_tb (by omega) (by omega)] at g2
        rintro (z | z)
        · exact g z
        · rw [g2] at z; cases z
      · rw [e14, zy_tb (by omega) (by omega)] at g2
        exact Or.inr (by simpa using g2)
theorem k_tellPart {d : Nat} {b : zs_A} {w u : zm_S} {c : Nat} {tn R : Nat → Nat} (h : zr_W b w u c tn R) {x y : Nat} (hx : x < 7) (hy : y < 7) : zm_C zc_H d mX2_tellPart [.ref 11, .int (nI x), .int (nI y)] u (zp .null (fun z => zr_W b w z (c + 1) (zs_tnu tn x y) (zr_up R x y))) := by
  refine zm_C.of mtX2_tellPart.1.2.2.2.2.2.2 rfl (Nat.le_of_ble_eq_true rfl) ?_
  have hR : ∀ q, q < 7 → R q < 128 := fun q hq => (h.2.2.2.1 q hq).2
  refine gX2_tellPart_0 (fun g => absurd g (Int32.not_lt.mpr ((zx_in (n := 7) (by decide)).mp (vp_in_nI hx (by decide))).1)) (fun _ => ?_)
  refine gX2_tellPart_4 (fun _ => ?_) (fun g => absurd ((zx_in (n := 7) (by decide)).mp (vp_in_nI hy (by decide))).1 g)
  refine gX2_tellPart_9 (vp_in_nI hy (by decide)) (vp_in_nI hy (by decide)) (vp_in_nI hx (by decide)) ?_
  rw [zx_clamp (by omega), zx_clamp (by omega), (h.2.2.1 x hx).2, (h.2.2.1 y hy).1, zy_bit x (by omega), fa_or, fa_or]
  refine l_tellPart (b := b) (w := w) (c := c) (tn := zs_tnu tn x y) hR hx hy (fun z z1 z2 z3 z4 z5 => gX2_tellPart_79 ?_) 7 0 _ rfl ⟨by rw [zm_pa_ne (by decide)]; exact h.1.1, fun j hj => by rw [zm_pa_ne (by decide)]; exact h.1.2 j hj⟩ (by rw [zm_pa_ne (by decide)]; exact h.2.1) (fun q hq => ⟨?_, ?_⟩) (fun j q1 q2 q3 => by rw [zm_pa_ne q2]; exact h.2.2.2.2.2.1 j q1 q2 q3) h.2.2.2.2.2.2
  · refine ⟨rfl, ⟨by rw [zm_pa_at, pk_un (by decide)]; exact z1.1, fun j hj => by rw [zm_pa_ne (by decide)]; exact z1.2 j hj⟩, by rw [zm_pa_at, pk_us, z2, nI_1], fun q hq => ⟨by rw [zm_pa_ne (by decide)]; exact (z3 q hq).1, by rw [zm_pa_ne (by decide)]; exact (z3 q hq).2⟩, fun q hq => ⟨zs_tnu_lt (fun q hq => (h.2.2.2.1 q hq).1) hx hy q hq, zr_up_lt hR hx q hq⟩, zr_I_up h.2.2.2.2.1 hx hy, fun j q1 q2 q3 => by rw [zm_pa_ne q1]; exact z4 j q1 q2 q3, z5⟩
  · rw [zm_pa_at, zs_tnu]
    by_cases z : q = y
    · rw [z, pk_us, if_pos rfl]
    · rw [pk_un z, if_neg z]; exact (h.2.2.1 q hq).1
  · rw [zm_pa_ne (by decide), if_neg (by omega)]; exact (h.2.2.1 q hq).2
theorem zs_part_lt {b : zs_A} {tn : Nat → Nat} {i j : Nat} (h : zs_part b tn i = .inl j) : j < i + 3 := by
  unfold zs_part at h
  split at h
  · cases h; omega
  · split at h
    · split at h
      · cases h; omega
      · split at h
        · cases h; omega
        · cases h
    · cases h; omega
theorem zs_part_r {b : zs_A} {tn : Nat → Nat} {i x y : Nat} (h : zs_part b tn i = .inr (x, y)) : zs_let b i = some x ∧ zs_let b (i + 2) = some y := by
  unfold zs_part at h
  split at h
  · cases h
  · rename_i x' hx'
    split at h
    · split at h
      · cases h
      · rename_i y' hy'
        split at h
        · cases h
        · cases h
          exact ⟨hx', hy'⟩
    · cases h
/-- the fault that was found, and what was told, if none -/
def zr_E (b : zs_A) (w : zm_S) (res : Option Nat × Nat × (Nat → Nat)) : Value → zm_S → Prop := fun r u => r = .int (zs_fl res.1) ∧ (∀ j, res.1 = some j → j < 100) ∧ zc_X b u ∧ (∀ k, k ≠ 11 → k ≠ 13 → k ≠ 14 → u.1 k = w.1 k) ∧ u.2 = w.2 ∧ (res.1 = none → u.1 11 4 = nI res.2.1 ∧ ∀ q, q < 7 → u.1 13 q = nI (res.2.2 q))
theorem l_firstFault {d : Nat} {b : zs_A} (hb : zs_ok b) {w : zm_S} : ∀ (m i c : Nat) (tn R : Nat → Nat) (u : zm_S), i + 4 * m = 64 → i ≤ b.1 6 0 → zr_W b w u c tn R → zm_T zc_H (d + 2) mX2_firstFault (zr_E b w (zs_rds b m i c tn)) 2 [(0, .ref 11), (1, .int (nI i))] [] u := by
  intro m
  have hl := hb.2.2.1.1
  induction m with
  | zero => intro i c tn R u hi hil; omega
  | succ m ih =>
    intro i c tn R u hi hil h
    have e2 : nI i + 2 = nI (i + 2) := by rw [show (2 : Int32) = nI 2 from rfl, nI_add]
    have e3 : nI i + 3 = nI (i + 3) := by rw [show (3 : Int32) = nI 3 from rfl, nI_add]
    have e4 : nI i + 4 = nI (i + 4) := by rw [show (4 : Int32) = nI 4 from rfl, nI_add]
    refine gX2_firstFault_2 (fun g => absurd g ?_) (fun _ => ?_)
    · rw [h.1.1, nI_ltI (by omega) (by omega)]; omega
    refine gX2_firstFault_10 (k_faultOfPart hb h (by omega)) (zq_i ?_)
    have hpf : ∀ q, zs_pf b tn i = some q → q < 100 := by
      intro q hq
      unfold zs_pf at hq
      split at hq
      · rename_i j hj
        cases hq
        have := zs_part_lt hj
        omega
      · cases hq
    refine gX2_firstFault_15 (fun g => ?_) (fun g => gX2_firstFault_21 ?_)
    · rw [zx_flne hpf] at g
      cases hpt : zs_part b tn i with
      | inl j => unfold zs_pf at g; rw [hpt] at g; cases g
      | inr xy =>
        obtain ⟨x, y⟩ := xy
        obtain ⟨hx, hy⟩ := zs_part_r hpt
        refine gX2_firstFault_23 (k_letterAt hb h.1 (by omega)) (zq_i ?_)
        refine gX2_firstFault_29 (by rw [e2]; exact k_letterAt hb h.1 (by omega)) (zq_i ?_)
        rw [hx, hy]
        refine gX2_firstFault_36 (k_tellPart h (zs_let_lt hx).1 (zs_let_lt hy).1) (zp_v (fun z hz => ?_))
        rw [zs_rds, hpt]
        simp only
        refine gX2_firstFault_39 (fun g2 => ?_) (fun g2 => gX2_firstFault_51 ?_)
        · rw [e3, hz.1.1, nI_ltI (by omega) (by omega)] at g2
          rw [if_pos g2]
          have h256 := hb.2.2.1.2 (i + 3) (by omega)
          have e12 : z.1 12 (nI i + 3).toNatClampNeg = nI (b.1 7 (i + 3)) := by rw [e3, zx_clamp (by omega)]; exact hz.1.2 _ (by omega)
          refine gX2_firstFault_53 (by rw [e3]; exact vp_in_nI (by omega) (by decide)) (fun g3 => gX2_firstFault_66 ?_) (fun g3 => gX2_firstFault_64 ?_)
          · rw [e12, show (59 : Int32) = nI 59 from rfl, nI_eq (by omega) (by omega)] at g3
            rw [if_pos g3, e4]
            exact ih (i + 4) (c + 1) _ _ z (by omega) (by omega) hz
          · rw [e12] at g3
            rw [if_neg (fun q => g3 (by rw [q]; rfl)), e3]
            exact ⟨rfl, fun j hj => by cases hj; omega, hz.1, hz.2.2.2.2.2.1, hz.2.2.2.2.2.2, fun q => by cases q⟩
        · rw [e3, hz.1.1, nI_ltI (by omega) (by omega)] at g2
          rw [if_neg g2]
          exact ⟨rfl, fun j hj => (by cases hj), hz.1, hz.2.2.2.2.2.1, hz.2.2.2.2.2.2, fun _ => ⟨hz.2.1, fun q hq => (hz.2.2.1 q hq).1⟩⟩
    · rw [zx_flne hpf] at g
      cases hpt : zs_part b tn i with
      | inr xy => unfold zs_pf at g; rw [hpt] at g; exact absurd rfl g
      | inl j =>
        have := zs_part_lt hpt
        rw [zs_rds, hpt]
        rw [show zs_pf b tn i = some j by unfold zs_pf; rw [hpt]]
        exact ⟨rfl, fun j hj => by cases hj; omega, h.1, h.2.2.2.2.2.1, h.2.2.2.2.2.2, fun q => by cases q⟩
theorem k_forgetParts {d : Nat} (w : zm_S) : zm_C zc_H (d + 1) mX2_forgetParts [.ref 11] w (zp .null (fun u => (∀ k, k ≠ 11 → k ≠ 13 → k ≠ 14 → u.1 k = w.1 k) ∧ u.2 = w.2 ∧ (∀ j, j ≠ 4 → u.1 11 j = w.1 11 j) ∧ u.1 11 4 = 0 ∧ ∀ q, q < 7 → u.1 13 q = 0 ∧ u.1 14 q = 0)) := by
  refine zm_C.of mtX2_forgetParts.1.2.2.2.2.2.2 rfl (Nat.le_of_ble_eq_true rfl) ?_
  refine gX2_forgetParts_0 (k_fill (o := 13) (n := 7) (by decide) rfl 0 _) (zp_v (fun u hu => ?_))
  refine gX2_forgetParts_8 (k_fill (o := 14) (n := 7) (by decide) rfl 0 _) (zp_v (fun z hz => gX2_forgetParts_16 ?_))
  refine ⟨rfl, fun k q1 q2 q3 => ?_, ?_, fun j hj => ?_, ?_, fun q hq => ⟨?_, ?_⟩⟩
  · rw [zm_pa_ne q1, hz.1.1 k q3, hu.1.1 k q2]
  · exact hz.1.2.trans hu.1.2
  · rw [zm_pa_at, pk_un hj, hz.1.1 11 (by decide), hu.1.1 11 (by decide)]
  · rw [zm_pa_at, pk_us]
  · rw [zm_pa_ne (by decide), hz.1.1 13 (by decide)]; exact hu.2 q hq
  · rw [zm_pa_ne (by decide)]; exact hz.2 q hq
/-- the text and its reading, in the class's places -/
def zc_T (b : zs_A) (w : zm_S) : Prop := zc_X b w ∧ w.1 11 4 = nI (zs_reads b).2.1 ∧ w.1 11 5 = zs_fl (zs_reads b).1 ∧ ∀ q, q < 7 → w.1 13 q = nI (zs_tn b q)
theorem zs_rds_some {b : zs_A} : ∀ (m i c : Nat) (tn : Nat → Nat) (j : Nat), (zs_rds b m i c tn).1 = some j → (zs_rds b m i c tn).2.1 = 0 ∧ (zs_rds b m i c tn).2.2 = fun _ => 0
  | 0, i, c, tn, j, h => by cases h
  | m + 1, i, c, tn, j, h => by
    rw [zs_rds] at h ⊢
    split
    · exact ⟨rfl, rfl⟩
    · rename_i x y hxy
      rw [hxy] at h
      simp only at h
      split
      · rename_i c1
        rw [if_pos c1] at h
        split
        · rename_i c2
          rw [if_pos c2] at h
          exact zs_rds_some m _ _ _ j h
        · exact ⟨rfl, rfl⟩
      · rename_i c1
        rw [if_neg c1] at h
        cases h
theorem k_readParts {d : Nat} {b : zs_A} (hb : zs_ok b) {w : zm_S} (h : zc_X b w) : zm_C zc_H (d + 3) mX2_readParts [.ref 11] w (zp .null (fun u => zc_T b u ∧ (∀ k, k ≠ 11 → k ≠ 13 → k ≠ 14 → u.1 k = w.1 k) ∧ u.2 = w.2)) := by
  refine zm_C.of mtX2_readParts.1.2.2.2.2.2.2 rfl (Nat.le_of_ble_eq_true rfl) ?_
  have hl := hb.2.2.1.1
  refine gX2_readParts_0 (k_forgetParts w) (zp_v (fun u hu => ?_))
  obtain ⟨f1, f2, f3, f4, f5⟩ := hu
  have hX : zc_X b u := ⟨by rw [f3 3 (by decide)]; exact h.1, fun k hk => by rw [f1 12 (by decide) (by decide) (by decide)]; exact h.2 k hk⟩
  refine gX2_readParts_4 (fun g => ?_) (fun g => gX2_readParts_12 ?_)
  · rw [hX.1] at g
    have g0 : ¬ b.1 6 0 = 0 := fun q => g (by rw [q]; rfl)
    have hC : zm_C zc_H (d + 2) mX2_firstFault [.ref 11] u (zr_E b w (zs_reads b)) := by
      refine zm_C.of mtX2_firstFault.1.2.2.2.2.2.2 rfl (Nat.le_of_ble_eq_true rfl) ?_
      rw [zs_reads, if_neg g0]
      exact gX2_firstFault_0 (l_firstFault (d := d) hb (w := w) 16 0 0 (fun _ => 0) (fun _ => 0) u (by decide) (by omega) ⟨hX, f4, fun q hq => f5 q hq, fun q _ => ⟨(show (0 : Nat) < 128 by decide), (show (0 : Nat) < 128 by decide)⟩, zr_I0, f1, f2⟩)
    refine gX2_readParts_16 hC (fun r z hz => ?_)
    obtain ⟨e, z1, z2, z3, z4, z5⟩ := hz
    cases e
    refine gX2_readParts_20 (fun g2 => gX2_readParts_35 ?_) (fun g2 => ?_)
    · rw [zx_flne z1] at g2
      obtain ⟨y1, y2⟩ := z5 g2
      refine ⟨rfl, ⟨⟨by rw [zm_pa_at, pk_un (by decide)]; exact z2.1, fun k hk => by rw [zm_pa_ne (by decide)]; exact z2.2 k hk⟩, by rw [zm_pa_at, pk_un (by decide)]; exact y1, by rw [zm_pa_at, pk_us], fun q hq => by rw [zm_pa_ne (by decide)]; exact y2 q hq⟩, fun k q1 q2 q3 => by rw [zm_pa_ne q1]; exact z3 k q1 q2 q3, z4⟩
    · refine gX2_readParts_31 (k_forgetParts _) (zp_v (fun y hy => gX2_readParts_35 ?_))
      obtain ⟨y1, y2, y3, y4, y5⟩ := hy
      rw [zx_flne z1] at g2
      obtain ⟨j, hj⟩ : ∃ j, (zs_reads b).1 = some j := by
        cases e : (zs_reads b).1 with
        | none => exact absurd e g2
        | some j => exact ⟨j, rfl⟩
      have hz0 : (zs_reads b).2.1 = 0 ∧ (zs_reads b).2.2 = fun _ => 0 := by
        rw [zs_reads, if_neg g0] at hj ⊢
        exact zs_rds_some _ _ _ _ j hj
      refine ⟨rfl, ⟨⟨by rw [y3 3 (by decide), zm_pa_at, pk_un (by decide)]; exact z2.1, fun k hk => by rw [y1 12 (by decide) (by decide) (by decide), zm_pa_ne (by decide)]; exact z2.2 k hk⟩, by rw [y4, hz0.1]; rfl, by rw [y3 5 (by decide), zm_pa_at, pk_us], fun q hq => by rw [(y5 q hq).1, zs_tn, hz0.2]; rfl⟩, fun k q1 q2 q3 => by rw [y1 k q1 q2 q3, zm_pa_ne q1]; exact z3 k q1 q2 q3, by rw [y2]; exact z4⟩
  · rw [hX.1] at g
    have g0 : b.1 6 0 = 0 := (nI_eq (b := 0) (by omega) (by decide)).mp g
    refine gX2_readParts_20 (fun g2 => gX2_readParts_35 ?_) (fun g2 => absurd rfl g2)
    have er : zs_reads b = (none, 0, fun _ => 0) := by rw [zs_reads, if_pos g0]
    refine ⟨rfl, ⟨⟨by rw [zm_pa_at, pk_un (by decide)]; exact hX.1, fun k hk => by rw [zm_pa_ne (by decide)]; exact hX.2 k hk⟩, by rw [zm_pa_at, pk_un (by decide), er]; exact f4, by rw [zm_pa_at, pk_us, er]; rfl, fun q hq => by rw [zm_pa_ne (by decide), (f5 q hq).1, zs_tn, er]; rfl⟩, fun k q1 q2 q3 => by rw [zm_pa_ne q1]; exact f1 k q1 q2 q3, f2⟩
