/-! ===== the next row ===== -/
def zs_gk (f : Nat → Nat) : Nat → Option Nat
  | 0 => none
  | i + 1 => if f (i + 1) < f i then zs_gk f i else some i
def zs_gj (f : Nat → Nat) (k : Nat) : Nat → Nat
  | 0 => 0
  | j + 1 => if f (j + 1) < f k then zs_gj f k j else j + 1
def zs_sw (f : Nat → Nat) (x y : Nat) : Nat → Nat := fun i => if i = y then f x else if i = x then f y else f i
def zs_gr : Nat → (Nat → Nat) → Nat → Nat → (Nat → Nat)
  | 0, f, _, _ => f
  | m + 1, f, x, y => if x < y then zs_gr m (zs_sw f x y) (x + 1) (y - 1) else f
def zs_nxt (f : Nat → Nat) (m : Nat) : Option (Nat → Nat) := match zs_gk f (m - 1) with
  | none => none
  | some k => some (zs_gr m (zs_sw f k (zs_gj f k (m - 1))) (k + 1) (m - 1))
theorem zs_gk_some {f : Nat → Nat} : ∀ {i k : Nat}, zs_gk f i = some k → k < i ∧ f k ≤ f (k + 1)
  | 0, k, h => by cases h
  | i + 1, k, h => by
    rw [zs_gk] at h
    split at h
    · have := zs_gk_some h
      exact ⟨by omega, this.2⟩
    · cases h
      rename_i q
      exact ⟨by omega, by omega⟩
theorem zs_gj_in {f : Nat → Nat} {k : Nat} (hk : f k ≤ f (k + 1)) : ∀ {j : Nat}, k + 1 ≤ j → k + 1 ≤ zs_gj f k j ∧ zs_gj f k j ≤ j
  | 0, h => by omega
  | j + 1, h => by
    rw [zs_gj]
    split
    · rename_i q
      have hj : k + 1 ≤ j := by
        by_cases e : j = k
        · subst e; omega
        · omega
      have := zs_gj_in hk hj
      omega
    · omega
/-- the model's row of the order -/
def zd_o (f : Nat → Nat) (m : Nat) (v : zm_S) : Prop := ∀ j, j < m → v.1 15 j = nI (f j)
theorem k_swaps {d : Nat} {v : zm_S} {f : Nat → Nat} {m x y : Nat} (hm : m ≤ 7) (hf : zd_o f m v) (hx : x < m) (hy : y < m) : zm_C zd_H d mX8_swaps [.ref 0, .int (nI x), .int (nI y)] v (zp .null (fun u => zd_o (zs_sw f x y) m u ∧ ∀ k, k ≠ 15 → u.1 k = v.1 k)) := by
  refine zm_C.of mtX8_swaps.1.2.2.2.2.2.2 rfl (Nat.le_of_ble_eq_true rfl) ?_
  have hix : vp_in (nI x) 7 := vp_in_nI (by omega) (by decide)
  have hiy : vp_in (nI y) 7 := vp_in_nI (by omega) (by decide)
  refine gX8_swaps_0 hix hiy hix hiy ?_
  rw [zx_clamp (by omega), zx_clamp (by omega), hf x hx, hf y hy]
  refine ⟨rfl, fun j hj => ?_, fun k hk => by rw [zm_pa_ne hk, zm_pa_ne hk]⟩
  rw [zm_pa_at, zm_pa_at]
  unfold zs_sw
  by_cases e1 : j = y
  · rw [if_pos e1, e1, pk_us]
  · rw [if_neg e1, pk_un e1]
    by_cases e2 : j = x
    · rw [if_pos e2, e2, pk_us]
    · rw [if_neg e2, pk_un e2]
      exact hf j hj
theorem zx_m1 (x : Int32) : x + (-1) = x - 1 := by
  rw [Int32.sub_eq_add_neg]
theorem zs_sw_lt {f : Nat → Nat} {m n x y : Nat} (h : ∀ j, j < m → f j < n) (hx : x < m) (hy : y < m) : ∀ j, j < m → zs_sw f x y j < n := by
  intro j hj
  unfold zs_sw
  split
  · exact h x hx
  · split
    · exact h y hy
    · exact h j hj
theorem l_goes3 {d : Nat} {v0 : zm_S} {m : Nat} (hm : m ≤ 7) {Q : Value → zm_S → Prop} : ∀ (t : Nat) (f : Nat → Nat) (x y : Nat) (v : zm_S), zd_o f m v → (∀ k, k ≠ 15 → v.1 k = v0.1 k) → x ≤ y + 1 → y < m → 0 < x → y + 1 ≤ x + t → (∀ u, zd_o (zs_gr t f x y) m u → (∀ k, k ≠ 15 → u.1 k = v0.1 k) → Q (.int 1) u) → zm_T zd_H (d + 1) mX8_goesOn Q 78 [(0, .ref 0), (4, .int (nI x)), (5, .int (nI y))] [] v := by
  intro t
  induction t with
  | zero =>
    intro f x y v h1 h2 hxy hy hx ht hQ
    exact gX8_goesOn_78 (fun _ => gX8_goesOn_102 (hQ v h1 h2)) (fun z => absurd (nI_le (by omega) (by omega)) z)
  | succ t ih =>
    intro f x y v h1 h2 hxy hy hx ht hQ
    rw [zs_gr] at hQ
    refine gX8_goesOn_78 (fun g => ?_) (fun g => ?_)
    · rw [nI_leI (by omega) (by omega)] at g
      rw [if_neg (by omega)] at hQ
      exact gX8_goesOn_102 (hQ v h1 h2)
    · rw [nI_leI (by omega) (by omega)] at g
      rw [if_pos (by omega)] at hQ
      refine gX8_goesOn_85 (k_swaps hm h1 (by omega) hy) (zp_v (fun u hu => gX8_goesOn_93 ?_))
      rw [nI_1, zx_m1, show nI y - 1 = nI (y - 1) from pk_sub (b := 1) (by omega)]
      exact ih (zs_sw f x y) (x + 1) (y - 1) u hu.1 (fun k hk => (hu.2 k hk).trans (h2 k hk)) (by omega) (by omega) (by omega) (by omega) hQ
theorem l_goes2 {d : Nat} {v : zm_S} {f : Nat → Nat} {m k : Nat} (hm : m ≤ 7) (hlt : ∀ j, j < m → f j < 7) (hf : zd_o f m v) (hk : f k ≤ f (k + 1)) {Q : Value → zm_S → Prop} (J : Nat) (hQ : zm_T zd_H d mX8_goesOn Q 62 [(0, .ref 0), (1, .int (nI m)), (2, .int (nI k)), (3, .int (nI J))] [] v) : ∀ (j : Nat), k + 1 ≤ j → j < m → zs_gj f k j = J → zm_T zd_H d mX8_goesOn Q 41 [(0, .ref 0), (1, .int (nI m)), (2, .int (nI k)), (3, .int (nI j))] [] v := by
  intro j
  induction j with
  | zero => intro h; omega
  | succ j ih =>
    intro h1 h2 hJ
    have l1 := hlt k (by omega)
    have l2 := hlt (j + 1) h2
    rw [zs_gj] at hJ
    refine gX8_goesOn_41 (vp_in_nI (by omega) (by decide)) (vp_in_nI (by omega) (by decide)) (fun g => ?_) (fun g => ?_)
    · rw [zx_clamp (by omega), zx_clamp (by omega), hf k (by omega), hf (j + 1) h2, nI_leI (by omega) (by omega)] at g
      rw [if_neg (by omega)] at hJ
      rw [hJ]
      exact hQ
    · rw [zx_clamp (by omega), zx_clamp (by omega), hf k (by omega), hf (j + 1) h2, nI_leI (by omega) (by omega)] at g
      rw [if_pos (by omega)] at hJ
      refine gX8_goesOn_56 ?_
      rw [zx_m1, show nI (j + 1) - 1 = nI j from nI_pred j]
      have hj : k + 1 ≤ j := by
        by_cases e : j = k
        · subst e; omega
        · omega
      exact ih hj (by omega) hJ
theorem l_goes1 {d : Nat} {v : zm_S} {f : Nat → Nat} {m : Nat} (hm : m ≤ 7) (hlt : ∀ j, j < m → f j < 7) (hf : zd_o f m v) {Q : Value → zm_S → Prop} : ∀ (i : Nat), i < m → (zs_gk f i = none → Q (.int 0) v) → (∀ k, zs_gk f i = some k → zm_T zd_H d mX8_goesOn Q 37 [(0, .ref 0), (1, .int (nI m)), (2, .int (nI k))] [] v) → zm_T zd_H d mX8_goesOn Q 4 [(0, .ref 0), (1, .int (nI m)), (2, .int (nI i - 1))] [] v := by
  intro i
  induction i with
  | zero =>
    intro hi h1 h2
    refine gX8_goesOn_4 (fun g => gX8_goesOn_31 (fun z => absurd z (by decide)) (fun _ => gX8_goesOn_35 (h1 rfl))) (fun g => absurd (by decide) g)
  | succ i ih =>
    intro hi h1 h2
    have l1 := hlt i (by omega)
    have l2 := hlt (i + 1) hi
    rw [nI_pred]
    refine gX8_goesOn_4 (fun g => absurd g (nI_pos (by omega))) (fun _ => ?_)
    rw [zs_gk] at h1 h2
    refine gX8_goesOn_8 (vp_in_nI (by omega) (by decide)) (by rw [nI_1]; exact vp_in_nI (by omega) (by decide)) (fun g => ?_) (fun g => ?_)
    · rw [nI_1, zx_clamp (by omega), zx_clamp (by omega), hf i (by omega), hf (i + 1) hi, nI_leI (by omega) (by omega)] at g
      rw [if_neg (by omega)] at h2
      exact gX8_goesOn_31 (fun _ => h2 i rfl) (fun z => absurd (nI_pos' (by omega)) z)
    · rw [nI_1, zx_clamp (by omega), zx_clamp (by omega), hf i (by omega), hf (i + 1) hi, nI_leI (by omega) (by omega)] at g
      rw [if_pos (by omega)] at h1 h2
      refine gX8_goesOn_25 ?_
      rw [zx_m1]
      exact ih (by omega) h1 h2
theorem k_goesOn {d : Nat} {v : zm_S} {f : Nat → Nat} {m : Nat} (hm1 : 1 ≤ m) (hm : m ≤ 7) (hlt : ∀ j, j < m → f j < 7) (hf : zd_o f m v) : zm_C zd_H (d + 1) mX8_goesOn [.ref 0, .int (nI m)] v (fun r u => (zs_nxt f m = none ∧ r = .int 0 ∧ u = v) ∨ (∃ g, zs_nxt f m = some g ∧ r = .int 1 ∧ zd_o g m u ∧ ∀ k, k ≠ 15 → u.1 k = v.1 k)) := by
  refine zm_C.of mtX8_goesOn.1.2.2.2.2.2.2 rfl (Nat.le_of_ble_eq_true rfl) ?_
  refine gX8_goesOn_0 ?_
  have e : nI m - 2 = nI (m - 1) - 1 := by
    rw [show nI (m - 1) = nI m - 1 from (pk_sub (b := 1) hm1).symm, Int32.sub_sub]
    rfl
  rw [e]
  refine l_goes1 hm hlt hf (m - 1) (by omega) (fun g => Or.inl ⟨by rw [zs_nxt, g], rfl, rfl⟩) (fun k g => gX8_goesOn_37 ?_)
  obtain ⟨k1, k2⟩ := zs_gk_some g
  have kj := zs_gj_in k2 (j := m - 1) (by omega)
  rw [show nI m - 1 = nI (m - 1) from pk_sub (b := 1) hm1]
  refine l_goes2 hm hlt hf k2 (zs_gj f k (m - 1)) ?_ (m - 1) (by omega) (by omega) rfl
  refine gX8_goesOn_62 (k_swaps hm hf (by omega) (by omega)) (zp_v (fun u hu => gX8_goesOn_68 ?_))
  rw [nI_1, show nI m - 1 = nI (m - 1) from pk_sub (b := 1) hm1]
  refine l_goes3 (v0 := v) hm m _ (k + 1) (m - 1) u hu.1 hu.2 (by omega) (by omega) (by omega) (by omega) (fun z z1 z2 => Or.inr ⟨_, ?_, rfl, z1, z2⟩)
  rw [zs_nxt, g]
