/-! ===== rows: a set aside, one turned; the errors of each set ===== -/
def zs_asd (A : Option Nat) (x : Nat) : Nat := match A with
  | none => x
  | some q => x &&& (127 ^^^ 2 ^ q)
def zs_trn (T : Option Nat) (x b : Nat) : Nat := match T with
  | none => x
  | some q => x ^^^ (b &&& 2 ^ q)
def zs_vy (a : zs_A) (A T : Option Nat) (p : Nat) : Nat := zs_trn T (zs_asd A (zs_Y a p)) (zs_asd A (zs_Y a p) ^^^ zs_asd A (zs_N a p))
def zs_vn (a : zs_A) (A T : Option Nat) (p : Nat) : Nat := zs_trn T (zs_asd A (zs_N a p)) (zs_asd A (zs_Y a p) ^^^ zs_asd A (zs_N a p))
theorem zs_asd_lt {A : Option Nat} {x : Nat} (h : x < 128) : zs_asd A x < 128 := by
  cases A with
  | none => exact h
  | some q => exact zy_and_lt h
theorem zs_trn_lt {T : Option Nat} {x b : Nat} (h : x < 128) (hb : b < 128) : zs_trn T x b < 128 := by
  cases T with
  | none => exact h
  | some q => exact zy_xor_lt h (zy_and_lt hb)
def zs_wg (a : zs_A) (A T : Option Nat) (p s : Nat) : Nat := zpc (zs_vy a A T p &&& (127 ^^^ s)) + zpc (zs_vn a A T p &&& s)
theorem zs_wg_le (a : zs_A) (A T : Option Nat) (p s : Nat) : zs_wg a A T p s ≤ 28 := by
  have h1 := zpc_le (zs_vy a A T p &&& (127 ^^^ s))
  have h2 := zpc_le (zs_vn a A T p &&& s)
  unfold zs_wg
  omega
theorem zs_vyn_lt {a : zs_A} (h : zs_ok a) {A T : Option Nat} (p : Nat) : zs_vy a A T p < 128 ∧ zs_vn a A T p < 128 := by
  have hy := zs_asd_lt (A := A) (zs_Y_lt a h p)
  have hn := zs_asd_lt (A := A) (zs_N_lt a h p)
  exact ⟨zs_trn_lt hy (zy_xor_lt hy hn), zs_trn_lt hn (zy_xor_lt hy hn)⟩
/-- the model's table of errors -/
def zd_W (a : zs_A) (A T : Option Nat) (v : zm_S) : Prop := ∀ p s, p < 12 → s < 2 ^ a.1 0 0 → v.1 14 (128 * p + s) = nI (zs_wg a A T p s)
theorem zx_128 (p s : Nat) : (128 : Int32) * nI p + nI s = nI (128 * p + s) := by rw [show (128 : Int32) = nI 128 from rfl, pk_mul, nI_add]
theorem l_wrong2 {d : Nat} {a : zs_A} {A T : Option Nat} {p y n : Nat} (hp12 : p < 12) (hy : y < 128) (hn : n < 128) {c e : Int32} {v0 : zm_S} {Q : Value → zm_S → Prop} (hk : ∀ u, zd_P a u → zd_S a u → (∀ k, k ≠ 14 → u.1 k = v0.1 k) → (∀ b, (b < 128 * p ∨ 128 * p + 128 ≤ b) → u.1 14 b = v0.1 14 b) → (∀ s, s < 2 ^ a.1 0 0 → u.1 14 (128 * p + s) = nI (zpc (y &&& (127 ^^^ s)) + zpc (n &&& s))) → zm_T zd_H (d + 1) mX8_findWrong Q 131 [(0, .ref 0), (1, .int c), (2, .int e), (3, .int (nI p))] [] u) : ∀ (m k : Nat) (v : zm_S), zd_P a v → zd_S a v → k + m = 2 ^ a.1 0 0 → (∀ k, k ≠ 14 → v.1 k = v0.1 k) → (∀ b, (b < 128 * p ∨ 128 * p + 128 ≤ b) → v.1 14 b = v0.1 14 b) → (∀ s, s < k → v.1 14 (128 * p + s) = nI (zpc (y &&& (127 ^^^ s)) + zpc (n &&& s))) → zm_T zd_H (d + 1) mX8_findWrong Q 82 [(0, .ref 0), (1, .int c), (2, .int e), (3, .int (nI p)), (4, .int (nI y)), (5, .int (nI n)), (6, .int (nI k))] [] v := by
  intro m
  induction m with
  | zero =>
    intro k v h hS hkm h1 h2 h3
    have hp := zn_pow h.1
    have hn7 := h.1.1
    obtain rfl : k = 2 ^ a.1 0 0 := by omega
    refine gX8_findWrong_82 (k_n h) (zq_i ?_)
    refine gX8_findWrong_89 (fun _ => hk v h hS h1 h2 h3) (fun q => absurd ?_ q)
    rw [zy_bit _ (by omega)]
    exact Int32.le_refl _
  | succ m ih =>
    intro k v h hS hkm h1 h2 h3
    have hp := zn_pow h.1
    have hn7 := h.1.1
    refine gX8_findWrong_82 (k_n h) (zq_i ?_)
    refine gX8_findWrong_89 (fun q => absurd q (by rw [zy_bit _ (by omega)]; exact nI_ge (by omega) (by omega))) (fun _ => ?_)
    refine gX8_findWrong_93 (by rw [zy_not hy (by omega)]; exact k_ones (zy_and_lt hy)) (zq_i ?_)
    refine gX8_findWrong_115 (by rw [fa_and]; exact k_ones (zy_and_lt hn)) (zq_i ?_)
    rw [zx_128]
    refine gX8_findWrong_123 (vp_in_nI (by omega) (by decide)) ?_
    rw [zx_clamp (by omega), nI_add, nI_1]
    refine ih (k + 1) _ (h.pa (by omega) _) (hS.keep (zm_pa_ne (by decide))) (by omega) (fun j hj => by rw [zm_pa_ne hj]; exact h1 j hj) (fun b hb => by rw [zm_pa_at, pk_un (by omega)]; exact h2 b hb) (fun s hs => ?_)
    rw [zm_pa_at]
    by_cases z : s = k
    · rw [z, pk_us]
    · rw [pk_un (by omega)]
      exact h3 s (by omega)
theorem zx_fl {o : Option Nat} (h : ∀ q, o = some q → q < 7) : (zs_fl o = -1) ↔ o = none := by
  cases o with
  | none => exact ⟨fun _ => rfl, fun _ => rfl⟩
  | some q =>
    have := h q rfl
    refine ⟨fun z => ?_, fun z => by cases z⟩
    have z2 := congrArg Int32.toInt z
    rw [show zs_fl (some q) = nI q from rfl, nI_toInt (by omega), show (-1 : Int32).toInt = -1 by decide] at z2
    omega
theorem l_wrong1 {d : Nat} {a : zs_A} {A T : Option Nat} (hA : ∀ q, A = some q → q < 7) (hT : ∀ q, T = some q → q < 7) {v0 : zm_S} : ∀ (m p : Nat) (v : zm_S), zd_P a v → zd_S a v → p + m = 12 → (∀ k, k ≠ 14 → v.1 k = v0.1 k) → (∀ j s, j < p → s < 2 ^ a.1 0 0 → v.1 14 (128 * j + s) = nI (zs_wg a A T j s)) → zm_T zd_H (d + 2) mX8_findWrong (zp .null (fun u => zd_P a u ∧ zd_S a u ∧ zd_W a A T u ∧ ∀ k, k ≠ 14 → u.1 k = v0.1 k)) 2 [(0, .ref 0), (1, .int (zs_fl A)), (2, .int (zs_fl T)), (3, .int (nI p))] [] v := by
  intro m
  induction m with
  | zero =>
    intro p v h hS hpm h1 h2
    obtain rfl : p = 12 := by omega
    exact gX8_findWrong_2 (fun _ => gX8_findWrong_137 ⟨rfl, h, hS, h2, h1⟩) (fun q => absurd (by decide) q)
  | succ m ih =>
    intro p v h hS hpm h1 h2
    have hp := zn_pow h.1
    have hy := zs_Y_lt a h.1 p
    have hn := zs_N_lt a h.1 p
    refine gX8_findWrong_2 (fun q => absurd q (nI_ge (b := 12) (by omega) (by decide))) (fun _ => ?_)
    refine gX8_findWrong_8 (k_yes h hS (by omega)) (zq_i ?_)
    refine gX8_findWrong_14 (k_no0 h hS (by omega)) (zq_i ?_)
    have go2 : ∀ y n, y = zs_vy a A T p → n = zs_vn a A T p → zm_T zd_H (d + 2) mX8_findWrong (zp .null (fun u => zd_P a u ∧ zd_S a u ∧ zd_W a A T u ∧ ∀ k, k ≠ 14 → u.1 k = v0.1 k)) 79 [(0, .ref 0), (1, .int (zs_fl A)), (2, .int (zs_fl T)), (3, .int (nI p)), (4, .int (nI y)), (5, .int (nI n))] [] v := by
      intro y n ey en
      have hl := zs_vyn_lt h.1 (A := A) (T := T) p
      rw [← ey, ← en] at hl
      refine gX8_findWrong_79 ?_
      refine l_wrong2 (A := A) (T := T) (by omega) hl.1 hl.2 (v0 := v) (fun u hu hSu g1 g2 g3 => gX8_findWrong_131 ?_) (2 ^ a.1 0 0) 0 v h hS (by omega) (fun _ _ => rfl) (fun _ _ => rfl) (fun s hs => absurd hs (Nat.not_lt_zero s))
      rw [nI_1]
      refine ih (p + 1) u hu hSu (by omega) (fun k hk => (g1 k hk).trans (h1 k hk)) (fun j s hj hs => ?_)
      by_cases z : j = p
      · rw [z, g3 s hs, ey, en]
        rfl
      · rw [g2 _ (by omega)]
        exact h2 j s (by omega) hs
    have go1 : ∀ y n, y = zs_asd A (zs_Y a p) → n = zs_asd A (zs_N a p) → zm_T zd_H (d + 2) mX8_findWrong (zp .null (fun u => zd_P a u ∧ zd_S a u ∧ zd_W a A T u ∧ ∀ k, k ≠ 14 → u.1 k = v0.1 k)) 49 [(0, .ref 0), (1, .int (zs_fl A)), (2, .int (zs_fl T)), (3, .int (nI p)), (4, .int (nI y)), (5, .int (nI n))] [] v := by
      intro y n ey en
      refine gX8_findWrong_49 (fun g => ?_) (fun g => ?_)
      · rw [zx_fl hT] at g
        exact go2 y n (by rw [zs_vy, g]; exact ey) (by rw [zs_vn, g]; exact en)
      · rw [zx_fl hT] at g
        obtain ⟨q, hq⟩ : ∃ q, T = some q := by cases hT2 : T with | none => exact absurd hT2 g | some q => exact ⟨q, rfl⟩
        have hq7 := hT q hq
        refine gX8_findWrong_54 ?_
        rw [show zs_fl T = nI q by rw [hq]; rfl, zy_bit q (by omega), fb_xorI, fa_and, fb_xorI, fb_xorI]
        have := go2 (y ^^^ ((y ^^^ n) &&& 2 ^ q)) (n ^^^ ((y ^^^ n) &&& 2 ^ q)) (by rw [zs_vy, ← ey, ← en, hq]; rfl) (by rw [zs_vn, ← ey, ← en, hq]; rfl)
        rw [show zs_fl T = nI q by rw [hq]; rfl] at this
        exact this
    refine gX8_findWrong_22 (fun g => ?_) (fun g => ?_)
    · rw [zx_fl hA] at g
      exact go1 _ _ (by rw [g]; rfl) (by rw [g]; rfl)
    · rw [zx_fl hA] at g
      obtain ⟨q, hq⟩ : ∃ q, A = some q := by cases hA2 : A with | none => exact absurd hA2 g | some q => exact ⟨q, rfl⟩
      have hq7 := hA q hq
      refine gX8_findWrong_29 ?_
      rw [show zs_fl A = nI q by rw [hq]; rfl, zy_bit q (by omega), zy_not hy (zy_lt hq7), zy_not hn (zy_lt hq7)]
      have := go1 (zs_Y a p &&& (127 ^^^ 2 ^ q)) (zs_N a p &&& (127 ^^^ 2 ^ q)) (by rw [hq]; rfl) (by rw [hq]; rfl)
      rw [show zs_fl A = nI q by rw [hq]; rfl] at this
      exact this
theorem k_findWrong {d : Nat} {a : zs_A} {v : zm_S} (h : zd_P a v) (hS : zd_S a v) {A T : Option Nat} (hA : ∀ q, A = some q → q < 7) (hT : ∀ q, T = some q → q < 7) : zm_C zd_H (d + 2) mX8_findWrong [.ref 0, .int (zs_fl A), .int (zs_fl T)] v (zp .null (fun u => zd_P a u ∧ zd_S a u ∧ zd_W a A T u ∧ ∀ k, k ≠ 14 → u.1 k = v.1 k)) := by
  refine zm_C.of mtX8_findWrong.1.2.2.2.2.2.2 rfl (Nat.le_of_ble_eq_true rfl) ?_
  exact gX8_findWrong_0 (l_wrong1 hA hT 12 0 v h hS (by omega) (fun _ _ => rfl) (fun j s hj => absurd hj (Nat.not_lt_zero j)))
/-- of a row: the set of the first k, and the least errors so far -/
def zs_om (W : Nat → Nat → Nat) (l : List Nat) (p : Nat) : Nat → Nat × Nat
  | 0 => (0, W p 0)
  | k + 1 => ((zs_om W l p k).1 ||| 2 ^ l.getD k 0, min (W p ((zs_om W l p k).1 ||| 2 ^ l.getD k 0)) (zs_om W l p k).2)
def zs_of (W : Nat → Nat → Nat) (l : List Nat) : Nat → Nat := fb_sm (fun p => (zs_om W l p l.length).2)
theorem zs_om_lt {W : Nat → Nat → Nat} {l : List Nat} {n : Nat} (hl : ∀ j, j < l.length → l.getD j 0 < n) (p : Nat) : ∀ k, k ≤ l.length → (zs_om W l p k).1 < 2 ^ n
  | 0, _ => Nat.two_pow_pos n
  | k + 1, hk => by
    rw [zs_om]
    exact Nat.or_lt_two_pow (zs_om_lt hl p k (by omega)) (Nat.pow_lt_pow_right (by decide) (hl k (by omega)))
theorem zs_om_le {W : Nat → Nat → Nat} (hW : ∀ p s, W p s ≤ 28) (l : List Nat) (p : Nat) : ∀ k, (zs_om W l p k).2 ≤ 28
  | 0 => hW p 0
  | k + 1 => by
    have := hW p ((zs_om W l p k).1 ||| 2 ^ l.getD k 0)
    rw [zs_om]
    simp only
    omega
/-- the row is in the model's place -/
def zd_O (l : List Nat) (v : zm_S) : Prop := ∀ j, j < l.length → v.1 15 j = nI (l.getD j 0)
theorem l_offNow2 {d : Nat} {a : zs_A} {A T : Option Nat} {v : zm_S} (h : zd_P a v) (hW : zd_W a A T v) {l : List Nat} (hlen : l.length ≤ 7) (hl : ∀ j, j < l.length → l.getD j 0 < a.1 0 0) (hO : zd_O l v) {p c : Nat} (hp12 : p < 12) {Q : Value → zm_S → Prop} (hk : zm_T zd_H d mX8_offNow Q 85 [(0, .ref 0), (1, .int (nI l.length)), (2, .int (nI c)), (3, .int (nI p)), (5, .int (nI (zs_om (zs_wg a A T) l p l.length).2))] [] v) : ∀ (m k : Nat), k + m = l.length → zm_T zd_H d mX8_offNow Q 28 [(0, .ref 0), (1, .int (nI l.length)), (2, .int (nI c)), (3, .int (nI p)), (4, .int (nI (zs_om (zs_wg a A T) l p k).1)), (5, .int (nI (zs_om (zs_wg a A T) l p k).2)), (6, .int (nI k))] [] v := by
  have hp := zn_pow h.1
  have hn7 := h.1.1
  intro m
  induction m with
  | zero =>
    intro k hkm
    obtain rfl : k = l.length := by omega
    exact gX8_offNow_28 (fun _ => hk) (fun q => absurd (Int32.le_refl _) q)
  | succ m ih =>
    intro k hkm
    have next := ih (k + 1) (by omega)
    have hlt := zs_om_lt (W := zs_wg a A T) hl p (k + 1) (by omega)
    have hle := zs_om_le (zs_wg_le a A T) l p k
    have hwl := zs_wg_le a A T p (zs_om (zs_wg a A T) l p (k + 1)).1
    have hlk := hl k (by omega)
    have e1 : nI (zs_om (zs_wg a A T) l p k).1 ||| ((1 : Int32) <<< (v.1 15 (nI k).toNatClampNeg &&& 31)) = nI (zs_om (zs_wg a A T) l p (k + 1)).1 := by
      rw [zx_clamp (by omega), hO k (by omega), zy_bit _ (by omega), fa_or]
      rfl
    have e2 : v.1 14 ((128 : Int32) * nI p + nI (zs_om (zs_wg a A T) l p (k + 1)).1).toNatClampNeg = nI (zs_wg a A T p (zs_om (zs_wg a A T) l p (k + 1)).1) := by
      rw [zx_128, zx_clamp (by omega)]
      exact hW p _ hp12 hlt
    refine gX8_offNow_28 (fun q => absurd q (nI_ge (by omega) (by omega))) (fun _ => ?_)
    refine gX8_offNow_34 (vp_in_nI (by omega) (by decide)) (by rw [e1, zx_128]; exact vp_in_nI (by omega) (by decide)) (fun g => ?_) (fun g => ?_)
    · rw [e1, e2, nI_leI (by omega) (by omega)] at g
      rw [e1]
      refine gX8_offNow_75 (gX8_offNow_77 ?_)
      rw [nI_1]
      rw [show (zs_om (zs_wg a A T) l p (k + 1)).2 = (zs_om (zs_wg a A T) l p k).2 from Nat.min_eq_right g] at next
      exact next
    · rw [e1, e2, nI_leI (by omega) (by omega)] at g
      rw [e1, e2]
      refine gX8_offNow_70 (gX8_offNow_77 ?_)
      rw [nI_1]
      rw [show (zs_om (zs_wg a A T) l p (k + 1)).2 = zs_wg a A T p (zs_om (zs_wg a A T) l p (k + 1)).1 from Nat.min_eq_left (Nat.le_of_lt (Nat.not_le.mp g))] at next
      exact next
theorem l_offNow1 {d : Nat} {a : zs_A} {A T : Option Nat} {v : zm_S} (h : zd_P a v) (hW : zd_W a A T v) {l : List Nat} (hlen : l.length ≤ 7) (hl : ∀ j, j < l.length → l.getD j 0 < a.1 0 0) (hO : zd_O l v) : ∀ (m p : Nat), p + m = 12 → zm_T zd_H d mX8_offNow (zq (.int (nI (zs_of (zs_wg a A T) l 12))) v) 4 [(0, .ref 0), (1, .int (nI l.length)), (2, .int (nI (zs_of (zs_wg a A T) l p))), (3, .int (nI p))] [] v := by
  have hp := zn_pow h.1
  intro m
  induction m with
  | zero =>
    intro p hpm
    obtain rfl : p = 12 := by omega
    exact gX8_offNow_4 (fun _ => gX8_offNow_96 (zq_m _ _)) (fun q => absurd (by decide) q)
  | succ m ih =>
    intro p hpm
    have next := ih (p + 1) (by omega)
    rw [show zs_of (zs_wg a A T) l (p + 1) = zs_of (zs_wg a A T) l p + (zs_om (zs_wg a A T) l p l.length).2 from fb_sm_succ _ _] at next
    refine gX8_offNow_4 (fun q => absurd q (nI_ge (b := 12) (by omega) (by decide))) (fun _ => ?_)
    have e : (128 : Int32) * nI p = nI (128 * p + 0) := by rw [show (128 : Int32) = nI 128 from rfl, pk_mul, Nat.add_zero]
    refine gX8_offNow_10 (by rw [e]; exact vp_in_nI (by omega) (by decide)) ?_
    rw [e, zx_clamp (by omega), hW p 0 (by omega) (by omega)]
    refine l_offNow2 h hW hlen hl hO (by omega) (gX8_offNow_85 ?_) l.length 0 (by omega)
    rw [nI_add, nI_1]
    exact next
theorem k_offNow {d : Nat} {a : zs_A} {A T : Option Nat} {v : zm_S} (h : zd_P a v) (hW : zd_W a A T v) {l : List Nat} (hlen : l.length ≤ 7) (hl : ∀ j, j < l.length → l.getD j 0 < a.1 0 0) (hO : zd_O l v) : zm_C zd_H d mX8_offNow [.ref 0, .int (nI l.length)] v (zq (.int (nI (zs_of (zs_wg a A T) l 12))) v) := by
  refine zm_C.of mtX8_offNow.1.2.2.2.2.2.2 rfl (Nat.le_of_ble_eq_true rfl) ?_
  exact gX8_offNow_0 (l_offNow1 h hW hlen hl hO 12 0 (by omega))
