/-! ===== lessons, by digits ===== -/
theorem zl_dig {n P m t i k : Nat} (hn : 0 < n) (ht : t < n ^ m) (hk : i + 1 + m ≤ k) : (P * n ^ m + t) / n ^ (k - 1 - i) = P / n ^ (k - 1 - i - m) := by
  have e : n ^ (k - 1 - i) = n ^ m * n ^ (k - 1 - i - m) := by rw [← Nat.pow_add]; congr 1; omega
  rw [e, ← Nat.div_div_eq_div_mul]
  congr 1
  have hp : 0 < n ^ m := Nat.pow_pos hn
  rw [Nat.mul_comm, Nat.mul_add_div hp, Nat.div_eq_of_lt ht, Nat.add_zero]
theorem zl_qeq {a : zs_A} (h : zs_ok a) {P m t i k : Nat} (ht : t < a.1 0 0 ^ m) (hk : i + 1 + m ≤ k) : zs_q a (P * a.1 0 0 ^ m + t) k i = zs_q a (P * a.1 0 0 ^ m) k i := by
  have hn := h.1
  have hp : 0 < a.1 0 0 ^ m := Nat.pow_pos (by omega)
  unfold zs_q
  rw [zl_dig (by omega) ht hk]
  have := zl_dig (n := a.1 0 0) (P := P) (m := m) (t := 0) (i := i) (k := k) (by omega) hp hk
  rw [Nat.add_zero] at this
  rw [this]
theorem zl_qat {a : zs_A} (h : zs_ok a) {P q i m : Nat} (hq : q < a.1 0 0) : zs_q a ((P * a.1 0 0 + q) * a.1 0 0 ^ m) (i + 1 + m) i = q := by
  have hn := h.1
  have hp : 0 < a.1 0 0 ^ m := Nat.pow_pos (by omega)
  unfold zs_q
  rw [show i + 1 + m - 1 - i = m by omega, Nat.mul_div_cancel _ hp, Nat.mul_comm, Nat.mul_add_mod, Nat.mod_eq_of_lt hq]
theorem zl_ls_cong {a : zs_A} {r r' k o : Nat} : ∀ {i : Nat}, (∀ j, j < i → zs_q a r k j = zs_q a r' k j) → zs_ls a r k o i = zs_ls a r' k o i
  | 0, _ => rfl
  | i + 1, h => by rw [zs_ls, zs_ls, zl_ls_cong (i := i) (fun j hj => h j (by omega)), h i (by omega)]
theorem zl_ls_step (a : zs_A) (r k o i : Nat) : ∀ j, (zs_ls a r k o (i + j)).2 ≤ (zs_ls a r k o i).2 + j
  | 0 => Nat.le_refl _
  | j + 1 => by
    have := zl_ls_step a r k o i j
    rw [← Nat.add_assoc, zs_ls]
    split
    · simp only; omega
    · omega
theorem zl_ls_lt {a : zs_A} (h : zs_ok a) {r k o : Nat} (ho : o < 2 ^ a.1 0 0) : ∀ i, (zs_ls a r k o i).1 < 2 ^ a.1 0 0
  | 0 => ho
  | i + 1 => by
    have ih := zl_ls_lt h ho i (r := r) (k := k)
    rw [zs_ls]
    split
    · exact Nat.or_lt_two_pow ih (Nat.pow_lt_pow_right (by decide) (zs_q_lt h r k i))
    · exact ih
/-- learnt after i lessons -/
def zl_L (a : zs_A) (r k i : Nat) : Nat → Nat := fb_sm (fun p => if zs_N a p ||| zs_Y a p ≠ 0 then (zs_ls a r k (zs_own a p) i).2 else 0)
theorem zl_L_cong {a : zs_A} {r r' k i : Nat} (h : ∀ j, j < i → zs_q a r k j = zs_q a r' k j) (m : Nat) : zl_L a r k i m = zl_L a r' k i m := fb_sm_cong (fun p _ => by rw [zl_ls_cong h])
theorem zl_L_le (a : zs_A) (r k i j : Nat) : ∀ m, zl_L a r k (i + j) m ≤ zl_L a r k i m + j * zs_with a m
  | 0 => Nat.zero_le _
  | m + 1 => by
    have ih := zl_L_le a r k i j m
    have := zl_ls_step a r k (zs_own a m) i j
    unfold zl_L at *
    rw [fb_sm_succ, fb_sm_succ, zs_with_1]
    by_cases c : zs_N a m ||| zs_Y a m ≠ 0
    · rw [if_pos c, if_pos c, if_pos c, Nat.mul_add]
      omega
    · rw [if_neg c, if_neg c, if_neg c]
      omega
theorem zs_lf_skip {a : zs_A} {k R : Nat} : ∀ m, (∀ r, R ≤ r → r < R + m → ¬ (zs_lf a k R).2 < nI (zs_ln a r k 12)) → zs_lf a k (R + m) = zs_lf a k R
  | 0, _ => rfl
  | m + 1, h => by
    have ih := zs_lf_skip (a := a) (k := k) (R := R) m (fun r h1 h2 => h r h1 (by omega))
    rw [← Nat.add_assoc, zs_lf, ih, if_neg (h (R + m) (by omega) (by omega))]
theorem zs_with_le (a : zs_A) (m : Nat) : zs_with a m ≤ m := fb_ct_le _ _
theorem zl_L_small (a : zs_A) {r k i : Nat} (h : zs_ok a) (hi : i ≤ 4) : zl_L a r k i 12 ≤ 48 := by
  have := zl_L_le a r k 0 i 12
  have h0 : zl_L a r k 0 12 = 0 := by
    have : ∀ m, zl_L a r k 0 m = 0 := by
      intro m
      unfold zl_L
      induction m with
      | zero => rfl
      | succ m ih => rw [fb_sm_succ, ih]; simp [zs_ls]
    exact this 12
  have hw := zs_with_le a 12
  have : i * zs_with a 12 ≤ 4 * 12 := Nat.mul_le_mul hi hw
  rw [Nat.zero_add] at *
  omega
theorem zs_with_mono (a : zs_A) (k : Nat) : ∀ m, zs_with a k ≤ zs_with a (k + m)
  | 0 => Nat.le_refl _
  | m + 1 => by
    have := zs_with_mono a k m
    rw [← Nat.add_assoc, zs_with_1]
    omega
theorem zs_with_lt {a : zs_A} {k n : Nat} (hk : k < n) (h : zs_N a k ||| zs_Y a k ≠ 0) : zs_with a k < zs_with a n := by
  have := zs_with_mono a (k + 1) (n - (k + 1))
  rw [zs_with_1, if_pos h, show k + 1 + (n - (k + 1)) = n by omega] at this
  omega
/-! ===== the plan, in the class ===== -/
def zl_F (w0 u : zm_S) : Prop := (∀ j, j < 30 ∨ 38 < j → u.1 j = w0.1 j) ∧ u.2 = w0.2
def zl_H (a : zs_A) (r k : Nat) (u : zm_S) (i : Nat) : Prop := ∀ p, p < 12 → zs_N a p ||| zs_Y a p ≠ 0 → u.1 (34 + i) (zs_with a p) = nI (zs_ls a r k (zs_own a p) i).1
def zl_M (a : zs_A) (k R : Nat) (u : zm_S) : Prop := u.1 30 5 = (zs_lf a k R).2 ∧ (0 < R → ∀ i, i < k → u.1 33 i = nI (zs_q a (zs_lf a k R).1 k i))
theorem zl_row {i : Nat} (h : i < 5) : ([34, 35, 36, 37, 38] : List Nat)[(nI i).toNatClampNeg]? = some (34 + i) := by
  rw [zx_clamp (by omega)]
  rcases (show i = 0 ∨ i = 1 ∨ i = 2 ∨ i = 3 ∨ i = 4 by omega) with rfl | rfl | rfl | rfl | rfl <;> rfl
theorem zl_rowH {i : Nat} (h : i < 5) : zc_H[34 + i]? = some (.inl (.int, 12, [])) := by
  rcases (show i = 0 ∨ i = 1 ∨ i = 2 ∨ i = 3 ∨ i = 4 by omega) with rfl | rfl | rfl | rfl | rfl <;> rfl
theorem l_lesson {d : Nat} {a : zs_A} {w0 : zm_S} (hQ : zc_Q a w0) {k r i q : Nat} (hi : i < 4) (hq : q < a.1 0 0) (hqr : zs_q a r k i = q) {w : zm_S} (hF : zl_F w0 w) (hH : zl_H a r k w i) (h3 : w.1 30 3 = nI (zs_with a 12)) (c0 : Nat) : ∀ (m p : Nat) (u : zm_S), p + m = 12 → zm_K (34 + i + 1) w u → (∀ p', p' < p → zs_N a p' ||| zs_Y a p' ≠ 0 → u.1 (34 + i + 1) (zs_with a p') = nI (zs_ls a r k (zs_own a p') (i + 1)).1) → ∀ c, zl_L a r k i p + c = zl_L a r k (i + 1) p → zm_T zc_H d mX3_lesson (fun rr u => zm_K (34 + i + 1) w u ∧ zl_H a r k u (i + 1) ∧ ∃ c, rr = .int (nI c) ∧ zl_L a r k i 12 + c = zl_L a r k (i + 1) 12) 11 [(0, .ref 30), (1, .int (nI i)), (3, .ref 23), (4, .int (nI (2 ^ q))), (5, .int (nI c)), (6, .int (nI (zs_with a p)))] [] u := by
  intro m
  have ha := hQ.1.1.1
  have hn := ha.1
  have hp2 := zn_pow ha
  have hw12 := zs_with_le a 12
  obtain ⟨b5, b6, b7, b8⟩ := hQ.2.2.2
  induction m with
  | zero =>
    intro p u hp hK hh c hc
    obtain rfl : p = 12 := by omega
    refine gX3_lesson_11 (fun _ => gX3_lesson_106 ⟨hK, fun p' hp' hs => by rw [← Nat.add_assoc]; exact hh p' hp' hs, c, rfl, hc⟩) (fun z => absurd (by rw [hK.1 30 (by omega), h3]; exact Int32.le_refl _) z)
  | succ m ih =>
    intro p u hp hK hh c hc
    have hwp := zs_with_le a p
    have eL : ∀ j, zl_L a r k j (p + 1) = zl_L a r k j p + (if zs_N a p ||| zs_Y a p ≠ 0 then (zs_ls a r k (zs_own a p) j).2 else 0) := fun j => fb_sm_succ _ _
    by_cases hs : zs_N a p ||| zs_Y a p ≠ 0
    · have hlt := zs_with_lt (n := 12) (by omega) hs
      have ho := (zs_own_ok ha p).1
      have hls := zl_ls_lt ha (r := r) (k := k) ho i
      have eb : u.1 (34 + i) (nI (zs_with a p)).toNatClampNeg = nI (zs_ls a r k (zs_own a p) i).1 := by
        rw [zx_clamp (by omega), hK.1 (34 + i) (by omega)]
        exact hH p (by omega) hs
      have e25 : ∀ s, s < 2 ^ a.1 0 0 → u.1 25 s = zi (zs_st a s = true) := fun s hs2 => by
        rw [hK.1 25 (by omega), hF.1 25 (by omega)]
        exact (b8 s hs2).1
      have h1 : nI i + 1 = nI (i + 1) := nI_1 _
      have hor : (zs_ls a r k (zs_own a p) i).1 ||| 2 ^ q < 2 ^ a.1 0 0 := Nat.or_lt_two_pow hls (Nat.pow_lt_pow_right (by decide) hq)
      refine gX3_lesson_11 (fun z => absurd z (by rw [hK.1 30 (by omega), h3]; exact nI_ge (by omega) (by omega))) (fun _ => ?_)
      have fin : ∀ (b : Nat) (l : Bool), zs_ls a r k (zs_own a p) (i + 1) = (b, (zs_ls a r k (zs_own a p) i).2 + (if l then 1 else 0)) → b < 128 → ∀ x : Int32, x = nI b → zm_T zc_H d mX3_lesson (fun rr u => zm_K (34 + i + 1) w u ∧ zl_H a r k u (i + 1) ∧ ∃ c, rr = .int (nI c) ∧ zl_L a r k i 12 + c = zl_L a r k (i + 1) 12) 84 [(0, .ref 30), (1, .int (nI i)), (3, .ref 23), (4, .int (nI (2 ^ q))), (5, .int (nI c)), (6, .int (nI (zs_with a p))), (8, .int (zi (l = true)))] [.int x, .int (nI (zs_with a p)), .ref (34 + (i + 1))] u := by
        intro b l hb hb2 x hx
        subst hx
        have next := ih (p + 1) (zm_pi u (34 + i + 1) (zs_with a p) (nI b)) (by omega) ⟨fun j hj => by rw [zm_pa_ne hj]; exact hK.1 j hj, hK.2⟩ (fun p' hp' hs' => by
          rw [zm_pa_at]
          by_cases z : p' = p
          · subst z; rw [pk_us, hb]
          · have := zs_with_lt (n := p) (k := p') (by omega) hs'
            rw [pk_un (by omega)]
            exact hh p' (by omega) hs') (c + (if l then 1 else 0)) (by rw [eL, eL, if_pos hs, if_pos hs, hb]; simp only; omega)
        rw [zs_with_1, if_pos hs] at next
        refine gX3_lesson_84 (zl_rowH (by omega)) (vp_in_nI (by omega) (by decide)) (fun g => gX3_lesson_96 (gX3_lesson_97 ?_)) (fun g => gX3_lesson_92 (gX3_lesson_97 ?_))
        · have gl := zi_0.mp g
          rw [if_neg gl] at next
          rw [zx_clamp (by omega), show (0 : Int32) = nI 0 from rfl, nI_add, nI_1, ← Nat.add_assoc]
          exact next
        · have gl := zi_n0.mp g
          rw [if_pos gl] at next
          rw [zx_clamp (by omega), nI_1, nI_1, ← Nat.add_assoc]
          exact next
      have stay : zs_ls a r k (zs_own a p) (i + 1) = zs_ls a r k (zs_own a p) i → zm_T zc_H d mX3_lesson (fun rr u => zm_K (34 + i + 1) w u ∧ zl_H a r k u (i + 1) ∧ ∃ c, rr = .int (nI c) ∧ zl_L a r k i 12 + c = zl_L a r k (i + 1) 12) 56 [(0, .ref 30), (1, .int (nI i)), (3, .ref 23), (4, .int (nI (2 ^ q))), (5, .int (nI c)), (6, .int (nI (zs_with a p))), (7, .int (nI (zs_ls a r k (zs_own a p) i).1))] [] u := by
        intro e
        refine gX3_lesson_56 (gX3_lesson_57 (by rw [h1]; exact vp_in_nI (by omega) (by decide)) (by rw [h1]; exact zl_row (by omega)) (fun _ => gX3_lesson_82 (zl_rowH (by omega)) ?_) (fun z => absurd rfl z))
        exact fin _ false (by rw [e]; rfl) (by omega) _ rfl
      refine gX3_lesson_20 (vp_in_nI (by omega) (by decide)) (zl_row (by omega)) (vp_in_nI (by omega) (by decide)) ?_ ?_
      all_goals
        rw [eb]
        intro g
      · refine stay ?_
        rw [zs_ls, hqr, if_neg]
        intro z
        have := zy_bit q (by omega)
        rw [← this, zy_tb (by omega) (by omega)] at g
        exact g z.1
      · rw [← zy_bit q (by omega), zy_tb (by omega) (by omega)] at g
        refine gX3_lesson_39 (by rw [fa_or]; exact vp_in_nI (by omega) (by decide)) (fun g2 => stay ?_) (fun g2 => ?_)
        · rw [fa_or, zx_clamp (by omega), e25 _ hor] at g2
          rw [zs_ls, hqr, if_neg (fun z => zi_0.mp g2 z.2)]
        · rw [fa_or, zx_clamp (by omega), e25 _ hor] at g2
          refine gX3_lesson_52 (gX3_lesson_57 (by rw [h1]; exact vp_in_nI (by omega) (by decide)) (by rw [h1]; exact zl_row (by omega)) (fun z => absurd z (by decide)) (fun _ => gX3_lesson_74 (zl_rowH (by omega)) ?_))
          exact fin _ true (by rw [zs_ls, hqr, if_pos ⟨g, zi_n0.mp g2⟩]; rfl) (by omega) _ (by rw [fa_or])
    · have next := ih (p + 1) u (by omega) hK (fun p' hp' hs' => by
          by_cases z : p' = p
          · subst z; exact absurd hs' hs
          · exact hh p' (by omega) hs') c (by rw [eL, eL, if_neg hs, if_neg hs]; exact hc)
      rw [zs_with_1, if_neg hs] at next
      exact next
