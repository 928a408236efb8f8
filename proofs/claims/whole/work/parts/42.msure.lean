theorem zy_notg (x h : Int32) : x &&& (h ^^^ (-1)) = x ^^^ (x &&& h) := by
  apply b_ext
  intro i hi
  rw [b_and, b_xor, b_xor, b_and, b_m1 i hi]
  cases bt x i <;> cases bt h i <;> rfl
theorem zy_notn (x h : Nat) : nI x &&& (nI h ^^^ (-1)) = nI (x ^^^ (x &&& h)) := by rw [zy_notg, fa_and, fb_xorI]
/-! ===== sure: which states may be, who has what, the fewest questions ===== -/
def zs_ps (a : zs_A) (w1 w2 s : Nat) : Bool := zs_st a s && (decide ((w1 &&& (2 ^ a.1 0 0 - 1)) &&& (127 ^^^ s) = 0) && decide (w2 &&& s = 0))
def zs_pn (a : zs_A) (w1 w2 k : Nat) : Nat := fb_ct (zs_ps a w1 w2) k
def zs_my (a : zs_A) (w1 w2 : Nat) : Nat → Nat → Nat
  | 0 => fun _ => 0
  | k + 1 => fun j => if zs_ps a w1 w2 k = true ∧ j = zs_pn a w1 w2 k then k else zs_my a w1 w2 k j
def zs_hs (M : Nat → Nat) (c q : Nat) : Nat := zb (fun k => (M k).testBit q) c
def zs_by (H f : Nat → Nat) (q k : Nat) : Nat := if k &&& H q = 0 ∨ k ^^^ (k &&& H q) = 0 then 10000 else 1 + max (f (k &&& H q)) (f (k ^^^ (k &&& H q)))
def zs_fv (H f : Nat → Nat) (k : Nat) : Nat → Nat
  | 0 => if k &&& (k - 1) = 0 then 0 else 10000
  | m + 1 => min (zs_by H f m k) (zs_fv H f k m)
def zs_ft (n : Nat) (H : Nat → Nat) : Nat → Nat → Nat
  | 0 => fun _ => 0
  | k + 1 => fun j => if j = k then zs_fv H (zs_ft n H k) k n else zs_ft n H k j
def zs_fst (H f : Nat → Nat) (all n : Nat) : Nat → Nat → Int32
  | 0, _ => -1
  | m + 1, q => if zs_by H f q all = f all then nI q else zs_fst H f all n m (q + 1)
def zs_sureN (a : zs_A) (w1 w2 w : Nat) : Int32 :=
  if zs_pn a w1 w2 (2 ^ a.1 0 0) = 0 then -3
  else if 14 < zs_pn a w1 w2 (2 ^ a.1 0 0) then -4
  else if w = 0 then nI (zs_ft (a.1 0 0) (zs_hs (zs_my a w1 w2 (2 ^ a.1 0 0)) (zs_pn a w1 w2 (2 ^ a.1 0 0))) (2 ^ zs_pn a w1 w2 (2 ^ a.1 0 0)) (2 ^ zs_pn a w1 w2 (2 ^ a.1 0 0) - 1))
  else if zs_pn a w1 w2 (2 ^ a.1 0 0) ≤ 1 then -1
  else zs_fst (zs_hs (zs_my a w1 w2 (2 ^ a.1 0 0)) (zs_pn a w1 w2 (2 ^ a.1 0 0))) (zs_ft (a.1 0 0) (zs_hs (zs_my a w1 w2 (2 ^ a.1 0 0)) (zs_pn a w1 w2 (2 ^ a.1 0 0))) (2 ^ zs_pn a w1 w2 (2 ^ a.1 0 0))) (2 ^ zs_pn a w1 w2 (2 ^ a.1 0 0) - 1) (a.1 0 0) (a.1 0 0) 0
theorem zs_pn_1 (a : zs_A) (w1 w2 k : Nat) : zs_pn a w1 w2 (k + 1) = zs_pn a w1 w2 k + (if zs_ps a w1 w2 k = true then 1 else 0) := fb_ct_succ _ _
theorem zs_pn_le (a : zs_A) (w1 w2 k : Nat) : zs_pn a w1 w2 k ≤ k := fb_ct_le _ _
theorem zs_my_lt (a : zs_A) (w1 w2 : Nat) : ∀ k j, k ≤ 128 → zs_my a w1 w2 k j < 128
  | 0, j, _ => show 0 < 128 by decide
  | k + 1, j, h => by
    rw [zs_my]
    simp only
    split
    · omega
    · exact zs_my_lt a w1 w2 k j (by omega)
theorem zs_fv_le (H f : Nat → Nat) (k : Nat) : ∀ m, zs_fv H f k m ≤ 10000
  | 0 => by rw [zs_fv]; split <;> omega
  | m + 1 => by
    have := zs_fv_le H f k m
    rw [zs_fv]
    omega
theorem zs_ft_le (n : Nat) (H : Nat → Nat) : ∀ k j, zs_ft n H k j ≤ 10000
  | 0, _ => Nat.zero_le _
  | k + 1, j => by
    rw [zs_ft]
    simp only
    split
    · exact zs_fv_le _ _ _ _
    · exact zs_ft_le n H k j
theorem zs_by_le {H f : Nat → Nat} (hf : ∀ j, f j ≤ 10000) (q k : Nat) : zs_by H f q k ≤ 10001 := by
  have h1 := hf (k &&& H q)
  have h2 := hf (k ^^^ (k &&& H q))
  unfold zs_by
  split <;> omega
theorem zy_xa_lt {k x : Nat} (h : k < 16384) : k ^^^ (k &&& x) < 16384 := Nat.xor_lt_two_pow (n := 14) h (Nat.lt_of_le_of_lt Nat.and_le_left h)
theorem k_byAsking {d : Nat} {v : zm_S} {H f : Nat → Nat} {q k : Nat} (hq : q < 7) (hk : k < 16384) (hH : v.1 19 q = nI (H q)) (hf : ∀ j, f j ≤ 10000) (hv : ∀ j, 0 < j → j < 16384 → j &&& k = j → j ≠ k → v.1 20 j = nI (f j)) : zm_C zd_H d mX8_byAsking [.ref 0, .int (nI q), .int (nI k)] v (zq (.int (nI (zs_by H f q k))) v) := by
  refine zm_C.of mtX8_byAsking.1.2.2.2.2.2.2 rfl (Nat.le_of_ble_eq_true rfl) ?_
  have hc : (nI q).toNatClampNeg = q := zx_clamp (by omega)
  have l1 : k &&& H q < 16384 := Nat.lt_of_le_of_lt Nat.and_le_left hk
  have l2 := zy_xa_lt (x := H q) hk
  have f1 := hf (k &&& H q)
  have f2 := hf (k ^^^ (k &&& H q))
  have e1 : nI (k &&& H q) = 0 ↔ k &&& H q = 0 := nI_eq (b := 0) (by omega) (by decide)
  have e2 : nI (k ^^^ (k &&& H q)) = 0 ↔ k ^^^ (k &&& H q) = 0 := nI_eq (b := 0) (by omega) (by decide)
  refine gX8_byAsking_0 (vp_in_nI hq (by decide)) (vp_in_nI hq (by decide)) (fun g => gX8_byAsking_30 ?_) (fun g => ?_)
  · rw [hc, hH, fa_and, e1] at g
    rw [zs_by, if_pos (Or.inl g)]
    exact zq_m _ _
  rw [hc, hH, fa_and, zy_notn]
  rw [hc, hH, fa_and, e1] at g
  refine gX8_byAsking_25 (fun g2 => ?_) (fun g2 => gX8_byAsking_30 ?_)
  rotate_left
  · rw [e2] at g2
    rw [zs_by, if_pos (Or.inr g2)]
    exact zq_m _ _
  rw [e2] at g2
  have x1 : (k &&& H q) &&& k = k &&& H q := by
    apply Nat.eq_of_testBit_eq
    intro i
    simp only [Nat.testBit_and]
    cases k.testBit i <;> cases (H q).testBit i <;> rfl
  have x2 : (k ^^^ (k &&& H q)) &&& k = k ^^^ (k &&& H q) := by
    apply Nat.eq_of_testBit_eq
    intro i
    simp only [Nat.testBit_and, Nat.testBit_xor]
    cases k.testBit i <;> cases (H q).testBit i <;> rfl
  have n1 : k &&& H q ≠ k := fun z => g2 (by rw [z, Nat.xor_self])
  have n2 : k ^^^ (k &&& H q) ≠ k := fun z => g (by
    have := congrArg (fun t => k ^^^ t) z
    simp only [← Nat.xor_assoc, Nat.xor_self, Nat.zero_xor] at this
    exact this)
  have v1 := hv (k &&& H q) (by omega) l1 x1 n1
  have v2 := hv (k ^^^ (k &&& H q)) (by omega) l2 x2 n2
  have hin1 : vp_in (nI (k &&& H q)) 16384 := vp_in_nI l1 (by decide)
  have hin2 : vp_in (nI (k ^^^ (k &&& H q))) 16384 := vp_in_nI l2 (by decide)
  refine gX8_byAsking_34 hin1 hin2 (fun g3 => gX8_byAsking_60 hin2 (gX8_byAsking_67 ?_)) (fun g3 => gX8_byAsking_51 hin1 (gX8_byAsking_67 ?_))
  · rw [zx_clamp (by omega), zx_clamp (by omega), v1, v2, nI_leI (by omega) (by omega)] at g3
    rw [zx_clamp (by omega), v2, zs_by, if_neg (fun z => z.elim g g2), Nat.max_eq_right g3, show (1 : Int32) = nI 1 from rfl, nI_add]
    exact zq_m _ _
  · rw [zx_clamp (by omega), zx_clamp (by omega), v1, v2, nI_leI (by omega) (by omega)] at g3
    rw [zx_clamp (by omega), v1, zs_by, if_neg (fun z => z.elim g g2), Nat.max_eq_left (by omega), show (1 : Int32) = nI 1 from rfl, nI_add]
    exact zq_m _ _
/-- loop 1: the states that may be -/
theorem l_sure1 {d : Nat} {a : zs_A} {w1 w2 : Nat} (hw1 : w1 < 128) (hw2 : w2 < 128) {w : Int32} {Q : Value → zm_S → Prop} (hk : ∀ u, zd_V a u → (∀ j, j < zs_pn a w1 w2 (2 ^ a.1 0 0) → j < 14 → u.1 18 j = nI (zs_my a w1 w2 (2 ^ a.1 0 0) j)) → zm_T zd_H (d + 2) mX8_sureOf Q 74 [(0, .ref 0), (3, .int w), (4, .int (nI (zs_pn a w1 w2 (2 ^ a.1 0 0))))] [] u) : ∀ (m k : Nat) (v : zm_S), zd_V a v → k + m = 2 ^ a.1 0 0 → (∀ j, j < zs_pn a w1 w2 k → j < 14 → v.1 18 j = nI (zs_my a w1 w2 k j)) → zm_T zd_H (d + 2) mX8_sureOf Q 10 [(0, .ref 0), (1, .int (nI w1)), (2, .int (nI w2)), (3, .int w), (4, .int (nI (zs_pn a w1 w2 k))), (5, .int (nI k))] [] v := by
  intro m
  induction m with
  | zero =>
    intro k v h hkm hv
    have hp := zn_pow h.1.1
    obtain rfl : k = 2 ^ a.1 0 0 := by omega
    refine gX8_sureOf_10 (k_whole h.1) (zq_i ?_)
    exact gX8_sureOf_16 (fun _ => hk v h hv) (fun q => absurd (nI_lt (by omega) (by omega)) q)
  | succ m ih =>
    intro k v h hkm hv
    have hp := zn_pow h.1.1
    have hpl := zs_pn_le a w1 w2 k
    have no : ∀ (g : zs_ps a w1 w2 k = false), zm_T zd_H (d + 2) mX8_sureOf Q 68 [(0, .ref 0), (1, .int (nI w1)), (2, .int (nI w2)), (3, .int w), (4, .int (nI (zs_pn a w1 w2 k))), (5, .int (nI k))] [] v := fun g => by
      have e : zs_pn a w1 w2 (k + 1) = zs_pn a w1 w2 k := by rw [zs_pn_1, g]; rfl
      have next := ih (k + 1) v h (by omega) (fun j hj hj2 => by
        rw [e] at hj
        rw [zs_my]
        simp only
        rw [if_neg (by rw [g]; simp)]
        exact hv j hj hj2)
      rw [e] at next
      refine gX8_sureOf_68 ?_
      rw [nI_1]
      exact next
    refine gX8_sureOf_10 (k_whole h.1) (zq_i ?_)
    refine gX8_sureOf_16 (fun q => absurd q (nI_nlt (by omega) (by omega))) (fun _ => ?_)
    refine gX8_sureOf_19 (k_isState h.1 h.2.2.2 (by omega)) (zq_i ?_)
    refine gX8_sureOf_25 (fun g => no ?_) (fun g1 => ?_)
    · rw [zs_ps, Bool.not_eq_true _ |>.mp (zi_0.mp g), Bool.false_and]
    refine gX8_sureOf_28 (k_whole h.1) (zq_i ?_)
    have hand := zy_and_lt (y := 2 ^ a.1 0 0 - 1) hw1
    have e1 : (nI w1 &&& nI (2 ^ a.1 0 0 - 1)) &&& (nI k ^^^ -1) = 0 ↔ (w1 &&& (2 ^ a.1 0 0 - 1)) &&& (127 ^^^ k) = 0 := by
      rw [fa_and, zy_not hand (by omega)]
      have := zy_and_lt (y := 127 ^^^ k) hand
      exact nI_eq (b := 0) (by omega) (by decide)
    refine gX8_sureOf_33 (fun g => no ?_) (fun g2 => ?_)
    · rw [e1] at g
      rw [zs_ps, decide_eq_false g, Bool.false_and, Bool.and_false]
    rw [e1] at g2
    have e2 : nI w2 &&& nI k = 0 ↔ w2 &&& k = 0 := by
      rw [fa_and]
      have := zy_and_lt (y := k) hw2
      exact nI_eq (b := 0) (by omega) (by decide)
    refine gX8_sureOf_42 (fun g => no ?_) (fun g3 => ?_)
    · rw [e2] at g
      rw [zs_ps, decide_eq_false g, Bool.and_false, Bool.and_false]
    rw [e2] at g3
    have gp : zs_ps a w1 w2 k = true := by rw [zs_ps, zi_n0.mp g1, decide_eq_true g2, decide_eq_true g3]; rfl
    have e : zs_pn a w1 w2 (k + 1) = zs_pn a w1 w2 k + 1 := by rw [zs_pn_1, gp]; rfl
    refine gX8_sureOf_49 (fun g4 => ?_) (fun g4 => ?_)
    · rw [show (14 : Int32) = nI 14 from rfl, nI_leI (by decide) (by omega)] at g4
      have next := ih (k + 1) v h (by omega) (fun j hj hj2 => by
        rw [zs_my]
        simp only
        rw [if_neg (fun z => by omega)]
        exact hv j (by omega) hj2)
      rw [e] at next
      refine gX8_sureOf_65 (gX8_sureOf_68 ?_)
      rw [nI_1, nI_1]
      exact next
    · rw [show (14 : Int32) = nI 14 from rfl, nI_leI (by decide) (by omega)] at g4
      refine gX8_sureOf_56 (vp_in_nI (by omega) (by decide)) ?_
      have next := ih (k + 1) (zm_pi v 18 (zs_pn a w1 w2 k) (nI k)) (h.pa (by omega) _) (by omega) (fun j hj hj2 => by
        rw [zs_my, zm_pa_at]
        simp only
        by_cases z : j = zs_pn a w1 w2 k
        · rw [if_pos ⟨gp, z⟩, z, pk_us]
        · rw [if_neg (fun y => z y.2), pk_un z]
          exact hv j (by omega) hj2)
      rw [e] at next
      refine gX8_sureOf_65 (gX8_sureOf_68 ?_)
      rw [zx_clamp (by omega), nI_1, nI_1]
      exact next
/-- loop 2: who has what -/
theorem l_sure3 {d : Nat} {a : zs_A} {M : Nat → Nat} (hM : ∀ j, M j < 128) {c q : Nat} (hc : c ≤ 14) (hq : q < 7) {w : Int32} {Q : Value → zm_S → Prop} {v0 : zm_S} (hk : ∀ u, zd_V a u → (∀ j, j < c → u.1 18 j = nI (M j)) → u.1 19 q = nI (zs_hs M c q) → (∀ j, j ≠ q → u.1 19 j = v0.1 19 j) → zm_T zd_H (d + 1) mX8_sureOf Q 161 [(0, .ref 0), (3, .int w), (4, .int (nI c)), (5, .int (nI q))] [] u) : ∀ (m k : Nat) (v : zm_S), zd_V a v → k + m = c → (∀ j, j < c → v.1 18 j = nI (M j)) → v.1 19 q = nI (zs_hs M k q) → (∀ j, j ≠ q → v.1 19 j = v0.1 19 j) → zm_T zd_H (d + 1) mX8_sureOf Q 115 [(0, .ref 0), (3, .int w), (4, .int (nI c)), (5, .int (nI q)), (6, .int (nI k))] [] v := by
  intro m
  induction m with
  | zero =>
    intro k v h hkm h1 h2 h3
    obtain rfl : k = c := by omega
    exact gX8_sureOf_115 (fun _ => hk v h h1 h2 h3) (fun z => absurd (Int32.le_refl _) z)
  | succ m ih =>
    intro k v h hkm h1 h2 h3
    have hMk := hM k
    have hin : vp_in (nI q) 7 := vp_in_nI hq (by decide)
    have hcq : (nI q).toNatClampNeg = q := zx_clamp (by omega)
    have fin : ∀ z, nI (zs_hs M (k + 1) q) = z → zm_T zd_H (d + 1) mX8_sureOf Q 115 [(0, .ref 0), (3, .int w), (4, .int (nI c)), (5, .int (nI q)), (6, .int (nI k + 1))] [] (zm_pi v 19 (nI q).toNatClampNeg z) := by
      intro z hz
      rw [hcq, nI_1, ← hz]
      exact ih (k + 1) _ (h.pa (by omega) _) (by omega) (fun j hj => by rw [zm_pa_ne (by decide)]; exact h1 j hj) (by rw [zm_pa_at, pk_us]) (fun j hj => by rw [zm_pa_at, pk_un hj]; exact h3 j hj)
    refine gX8_sureOf_115 (fun z => absurd z (nI_ge (by omega) (by omega))) (fun _ => ?_)
    refine gX8_sureOf_122 hin (vp_in_nI (by omega) (by decide)) (by rw [zx_clamp (by omega), h1 k (by omega)]; exact k_isIn (by omega) (by omega)) (zq_i ?_)
    rw [hcq, h2]
    have e : zs_hs M (k + 1) q = zs_hs M k q ||| (if (M k).testBit q = true then 2 ^ k else 0) := rfl
    refine gX8_sureOf_142 (fun g => gX8_sureOf_152 (gX8_sureOf_153 hin (fin _ ?_))) (fun g => gX8_sureOf_145 (gX8_sureOf_153 hin (fin _ ?_)))
    · rw [e, if_neg (zi_0.mp g), show (0 : Int32) = nI 0 from rfl, fa_or]
    · rw [e, if_pos (zi_n0.mp g), zy_bit k (by omega), fa_or]
theorem l_sure2 {d : Nat} {a : zs_A} {M : Nat → Nat} (hM : ∀ j, M j < 128) {c : Nat} (hc : c ≤ 14) {w : Int32} {Q : Value → zm_S → Prop} (hk : ∀ u, zd_V a u → (∀ q, q < a.1 0 0 → u.1 19 q = nI (zs_hs M c q)) → zm_T zd_H (d + 1) mX8_sureOf Q 167 [(0, .ref 0), (3, .int w), (4, .int (nI c))] [] u) : ∀ (m q : Nat) (v : zm_S), zd_V a v → q + m = a.1 0 0 → (∀ j, j < c → v.1 18 j = nI (M j)) → (∀ j, j < q → v.1 19 j = nI (zs_hs M c j)) → zm_T zd_H (d + 1) mX8_sureOf Q 95 [(0, .ref 0), (3, .int w), (4, .int (nI c)), (5, .int (nI q))] [] v := by
  intro m
  induction m with
  | zero =>
    intro q v h hqm h1 h2
    obtain rfl : q = a.1 0 0 := by omega
    refine gX8_sureOf_95 (k_n h.1) (zq_i ?_)
    exact gX8_sureOf_101 (fun _ => hk v h h2) (fun z => absurd (Int32.le_refl _) z)
  | succ m ih =>
    intro q v h hqm h1 h2
    have hn := h.1.1.1
    refine gX8_sureOf_95 (k_n h.1) (zq_i ?_)
    refine gX8_sureOf_101 (fun z => absurd z (nI_ge (by omega) (by omega))) (fun _ => ?_)
    refine gX8_sureOf_104 (vp_in_nI (by omega) (by decide)) ?_
    rw [zx_clamp (by omega)]
    refine l_sure3 (v0 := v) hM hc (by omega) (fun u hu g1 g2 g3 => gX8_sureOf_161 ?_) c 0 _ (h.pa (by omega) _) (by omega) (fun j hj => by rw [zm_pa_ne (by decide)]; exact h1 j hj) (by rw [zm_pa_at, pk_us]; rfl) (fun j hj => by rw [zm_pa_at, pk_un hj])
    rw [nI_1]
    refine ih (q + 1) u hu (by omega) g1 (fun j hj => ?_)
    by_cases z : j = q
    · rw [z]; exact g2
    · rw [g3 j z]; exact h2 j (by omega)
