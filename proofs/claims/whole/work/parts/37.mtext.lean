/-! ===== the text ===== -/
def zs_let (a : zs_A) (i : Nat) : Option Nat := if i < a.1 6 0 ∧ 97 ≤ a.1 7 i ∧ a.1 7 i ≤ 103 then some (a.1 7 i - 97) else none
def zs_ahq (tn : Nat → Nat) : Nat → Nat → Nat
  | 0, s => s
  | k + 1, s => zs_ahq tn k s ||| (if (zs_ahq tn k s).testBit k then tn k else 0)
def zs_ahr (tn : Nat → Nat) : Nat → Nat → Nat
  | 0, s => s
  | r + 1, s => zs_ahq tn 7 (zs_ahr tn r s)
def zs_part (a : zs_A) (tn : Nat → Nat) (i : Nat) : Nat ⊕ (Nat × Nat) :=
  match zs_let a i with
  | none => .inl i
  | some x =>
    if i + 1 < a.1 6 0 ∧ a.1 7 (i + 1) = 60 then
      match zs_let a (i + 2) with
      | none => .inl (i + 2)
      | some y => if (zs_ahr tn 7 (2 ^ x)).testBit y then .inl (i + 2) else .inr (x, y)
    else .inl (i + 1)
def zs_tnu (tn : Nat → Nat) (x y : Nat) : Nat → Nat := fun q => if q = y then tn y ||| 2 ^ x else tn q
/-- the fault, the parts, what is needed -/
def zs_rds (a : zs_A) : Nat → Nat → Nat → (Nat → Nat) → Option Nat × Nat × (Nat → Nat)
  | 0, _, c, tn => (none, c, tn)
  | m + 1, i, c, tn =>
    match zs_part a tn i with
    | .inl j => (some j, 0, fun _ => 0)
    | .inr (x, y) =>
      if i + 3 < a.1 6 0 then
        if a.1 7 (i + 3) = 59 then zs_rds a m (i + 4) (c + 1) (zs_tnu tn x y) else (some (i + 3), 0, fun _ => 0)
      else (none, c + 1, zs_tnu tn x y)
def zs_reads (a : zs_A) : Option Nat × Nat × (Nat → Nat) := if a.1 6 0 = 0 then (none, 0, fun _ => 0) else zs_rds a 16 0 0 (fun _ => 0)
def zs_fl (o : Option Nat) : Int32 := match o with
  | none => -1
  | some j => nI j
/-- the model's places of the text's reading: where, the parts, what is needed -/
def zd_R (v : zm_S) (i c : Nat) (tn : Nat → Nat) : Prop := v.1 0 14 = nI i ∧ v.1 0 15 = nI c ∧ ∀ q, q < 7 → v.1 12 q = nI (tn q)
/-- nothing else than the places 12 and the fields 14, 15 is touched: says stay -/
def zd_K (v u : zm_S) : Prop := ∀ k, k ≠ 0 → k ≠ 12 → u.1 k = v.1 k
theorem zd_K.rf (v : zm_S) : zd_K v v := fun _ _ _ => rfl
theorem zd_K.tr {v u z : zm_S} (h1 : zd_K v u) (h2 : zd_K u z) : zd_K v z := fun k q1 q2 => (h2 k q1 q2).trans (h1 k q1 q2)
theorem zd_K.f {v : zm_S} (j : Nat) (x : Int32) : zd_K v (zm_pi v 0 j x) := fun _ q1 _ => zm_pa_ne q1
theorem zd_K.n {v : zm_S} (f : Nat → Int32) : zd_K v (zm_pa v 12 f) := fun _ _ q2 => zm_pa_ne q2
theorem zx_m97 (b : Nat) (hb : b < 256) : (0 ≤ nI b - 97 ∧ nI b - 97 < 7) ↔ (97 ≤ b ∧ b ≤ 103) := by
  have e : (nI b - 97).toInt = (b : Int) - 97 := pk_sub_toInt (a := b) (b := 97) (by omega) (by omega)
  rw [fa_le, fa_lt, e]
  show (0 ≤ (b : Int) - 97 ∧ (b : Int) - 97 < 7) ↔ _
  omega
theorem k_here {d : Nat} {a : zs_A} {v : zm_S} (h : zd_P a v) {i : Nat} (hi : v.1 0 14 = nI i) (hl : i < 100) : zm_C zd_H d mX8_here [.ref 0] v (zq (.int (if i < a.1 6 0 then nI (a.1 7 i) else -1)) v) := by
  refine zm_C.of mtX8_here.1.2.2.2.2.2.2 rfl (Nat.le_of_ble_eq_true rfl) ?_
  obtain ⟨e1, e2⟩ := h.2.2.2.1
  have hle := h.1.2.2.1.1
  refine gX8_here_0 (fun g => gX8_here_23 ?_) (fun g => gX8_here_11 (by rw [hi]; rw [e1, hi, nI_leI (by omega) (by omega)] at g; exact vp_in_nI (by omega) (by decide)) ?_)
  · rw [e1, hi, nI_leI (by omega) (by omega)] at g
    rw [if_neg (by omega)]
    exact zq_m _ _
  · rw [e1, hi, nI_leI (by omega) (by omega)] at g
    rw [hi, zx_clamp (by omega), e2 i (by omega), if_pos (by omega)]
    exact zq_m _ _
theorem l_clears {d : Nat} {a : zs_A} {w : zm_S} {i : Nat} {Q : Value → zm_S → Prop} (hQ : ∀ u, zd_P a u → zd_K w u → zd_R u i 0 (fun _ => 0) → Q .null u) : ∀ (m k : Nat) (v : zm_S), zd_P a v → zd_K w v → v.1 0 14 = nI i → v.1 0 15 = 0 → k + m = 7 → (∀ q, q < k → v.1 12 q = 0) → zm_T zd_H d mX8_clears Q 7 [(0, .ref 0), (1, .int (nI k))] [] v := by
  intro m
  induction m with
  | zero =>
    intro k v h hK h14 h15 hk hs
    obtain rfl : k = 7 := by omega
    exact gX8_clears_7 (fun _ => gX8_clears_26 (hQ v h hK ⟨h14, h15, fun q hq => by rw [hs q hq]; rfl⟩)) (fun q => absurd (by decide) q)
  | succ m ih =>
    intro k v h hK h14 h15 hk hs
    refine gX8_clears_7 (fun q => absurd q (nI_ge (b := 7) (by omega) (by decide))) (fun _ => ?_)
    refine gX8_clears_13 (vp_in_nI (by omega) (by decide)) ?_
    rw [zx_clamp (by omega), nI_1]
    refine ih (k + 1) _ (h.pa (by omega) _) (hK.tr (zd_K.n _)) (by rw [zm_pa_ne (by decide)]; exact h14) (by rw [zm_pa_ne (by decide)]; exact h15) (by omega) (fun b hb => ?_)
    rw [zm_pa_at]
    by_cases e : b = k
    · rw [e, pk_us]
    · rw [pk_un e]; exact hs b (by omega)
theorem k_clears {d : Nat} {a : zs_A} {v : zm_S} (h : zd_P a v) {i : Nat} (hi : v.1 0 14 = nI i) : zm_C zd_H d mX8_clears [.ref 0] v (zp .null (fun u => zd_P a u ∧ zd_K v u ∧ zd_R u i 0 (fun _ => 0))) := by
  refine zm_C.of mtX8_clears.1.2.2.2.2.2.2 rfl (Nat.le_of_ble_eq_true rfl) ?_
  refine gX8_clears_0 ?_
  exact l_clears (fun u h1 h2 h3 => ⟨rfl, h1, h2, h3⟩) 7 0 _ (h.pf (by decide) _) (zd_K.f _ _) (by rw [zm_pa_at, pk_un (by decide)]; exact hi) (by rw [zm_pa_at, pk_us]) (by omega) (fun q hq => absurd hq (Nat.not_lt_zero q))
theorem zd_R.step {v : zm_S} {i c : Nat} {tn : Nat → Nat} (h : zd_R v i c tn) : zd_R (zm_pi v 0 14 (nI (i + 1))) (i + 1) c tn := by
  refine ⟨by rw [zm_pa_at, pk_us], by rw [zm_pa_at, pk_un (by decide)]; exact h.2.1, fun q hq => by rw [zm_pa_ne (by decide)]; exact h.2.2 q hq⟩
/-- takes(b) -/
theorem k_takes {d : Nat} {a : zs_A} {v : zm_S} (h : zd_P a v) {i c b : Nat} {tn : Nat → Nat} (hR : zd_R v i c tn) (hl : i < 100) (hb : b < 256) : zm_C zd_H (d + 1) mX8_takes [.ref 0, .int (nI b)] v (fun r u => (r = .int 1 ∧ (i < a.1 6 0 ∧ a.1 7 i = b) ∧ zd_P a u ∧ zd_K v u ∧ zd_R u (i + 1) c tn) ∨ (r = .int 0 ∧ ¬ (i < a.1 6 0 ∧ a.1 7 i = b) ∧ u = v)) := by
  refine zm_C.of mtX8_takes.1.2.2.2.2.2.2 rfl (Nat.le_of_ble_eq_true rfl) ?_
  have hlen := h.1.2.2.1
  have key : ((if i < a.1 6 0 then nI (a.1 7 i) else -1) = nI b) ↔ (i < a.1 6 0 ∧ a.1 7 i = b) := by
    by_cases q : i < a.1 6 0
    · have := hlen.2 i q
      rw [if_pos q, nI_eq (by omega) (by omega)]
      exact ⟨fun z => ⟨q, z⟩, fun z => z.2⟩
    · rw [if_neg q]
      refine ⟨fun z => ?_, fun z => absurd z.1 q⟩
      have := congrArg Int32.toInt z
      rw [nI_toInt (by omega)] at this
      have e : (-1 : Int32).toInt = -1 := by decide
      omega
  refine gX8_takes_0 (k_here h hR.1 hl) (zq_i ?_)
  refine gX8_takes_4 (fun g => gX8_takes_10 ?_) (fun g => gX8_takes_8 ?_)
  · rw [key] at g
    rw [hR.1, nI_1]
    exact Or.inl ⟨rfl, g, h.pf (by decide) _, zd_K.f _ _, hR.step⟩
  · rw [key] at g
    exact Or.inr ⟨rfl, g, rfl⟩
theorem zs_ahq_lt {tn : Nat → Nat} (ht : ∀ q, q < 7 → tn q < 128) {s : Nat} (hs : s < 128) : ∀ k, k ≤ 7 → zs_ahq tn k s < 128
  | 0, _ => hs
  | k + 1, hk => by
    rw [zs_ahq]
    refine zy_or_lt (zs_ahq_lt ht hs k (by omega)) ?_
    split
    · exact ht k (by omega)
    · decide
theorem zs_ahr_lt {tn : Nat → Nat} (ht : ∀ q, q < 7 → tn q < 128) {s : Nat} (hs : s < 128) : ∀ r, zs_ahr tn r s < 128
  | 0 => hs
  | r + 1 => zs_ahq_lt ht (zs_ahr_lt ht hs r) 7 (by omega)
theorem l_ahead2 {d : Nat} {v : zm_S} {tn : Nat → Nat} (ht : ∀ q, q < 7 → tn q < 128) (hv : ∀ q, q < 7 → v.1 12 q = nI (tn q)) {s r : Nat} (hs : s < 128) {Q : Value → zm_S → Prop} (hk : zm_T zd_H (d + 1) mX8_ahead Q 49 [(0, .ref 0), (2, .int (nI (zs_ahq tn 7 s))), (3, .int (nI r))] [] v) : ∀ (m k : Nat), k + m = 7 → zm_T zd_H (d + 1) mX8_ahead Q 13 [(0, .ref 0), (2, .int (nI (zs_ahq tn k s))), (3, .int (nI r)), (4, .int (nI k))] [] v := by
  intro m
  induction m with
  | zero =>
    intro k hk2
    obtain rfl : k = 7 := by omega
    exact gX8_ahead_13 (fun _ => hk) (fun q => absurd (by decide) q)
  | succ m ih =>
    intro k hk2
    have hl := zs_ahq_lt ht hs k (by omega)
    refine gX8_ahead_13 (fun q => absurd q (nI_ge (b := 7) (by omega) (by decide))) (fun _ => ?_)
    refine gX8_ahead_20 (k_isIn (by omega) (by omega)) (zq_i ?_)
    have next := ih (k + 1) (by omega)
    refine gX8_ahead_27 (fun g => gX8_ahead_40 (gX8_ahead_41 ?_)) (fun g => gX8_ahead_30 (vp_in_nI (by omega) (by decide)) (gX8_ahead_41 ?_))
    · rw [zi_0] at g
      rw [zs_ahq, if_neg g] at next
      rw [show (0 : Int32) = nI 0 from rfl, fa_or, nI_1]
      exact next
    · rw [zi_n0] at g
      rw [zs_ahq, if_pos g] at next
      rw [zx_clamp (by omega), hv k (by omega), fa_or, nI_1]
      exact next
theorem l_ahead1 {d : Nat} {v : zm_S} {tn : Nat → Nat} (ht : ∀ q, q < 7 → tn q < 128) (hv : ∀ q, q < 7 → v.1 12 q = nI (tn q)) {s : Nat} (hs : s < 128) : ∀ (m r : Nat), r + m = 7 → zm_T zd_H (d + 1) mX8_ahead (zq (.int (nI (zs_ahr tn 7 s))) v) 4 [(0, .ref 0), (2, .int (nI (zs_ahr tn r s))), (3, .int (nI r))] [] v := by
  intro m
  induction m with
  | zero =>
    intro r hr
    obtain rfl : r = 7 := by omega
    exact gX8_ahead_4 (fun _ => gX8_ahead_55 (zq_m _ _)) (fun q => absurd (by decide) q)
  | succ m ih =>
    intro r hr
    refine gX8_ahead_4 (fun q => absurd q (nI_ge (b := 7) (by omega) (by decide))) (fun _ => gX8_ahead_10 ?_)
    refine l_ahead2 ht hv (zs_ahr_lt ht hs r) (gX8_ahead_49 ?_) 7 0 (by omega)
    rw [nI_1]
    exact ih (r + 1) (by omega)
theorem k_ahead {d : Nat} {v : zm_S} {tn : Nat → Nat} (ht : ∀ q, q < 7 → tn q < 128) (hv : ∀ q, q < 7 → v.1 12 q = nI (tn q)) {s : Nat} (hs : s < 128) : zm_C zd_H (d + 1) mX8_ahead [.ref 0, .int (nI s)] v (zq (.int (nI (zs_ahr tn 7 s))) v) := by
  refine zm_C.of mtX8_ahead.1.2.2.2.2.2.2 rfl (Nat.le_of_ble_eq_true rfl) ?_
  exact gX8_ahead_0 (l_ahead1 ht hv hs 7 0 (by omega))
