/-! ===== answers that are one value, contents that are one ===== -/
def zq (r0 : Value) (w0 : zm_S) : Value → zm_S → Prop := fun r u => r = r0 ∧ u = w0
theorem zq_i {r0 : Int32} {u0 : zm_S} {P : Int32 → zm_S → Prop} (h : P r0 u0) : ∀ (r : Int32) (u : zm_S), zq (.int r0) u0 (.int r) u → P r u := by
  rintro r u ⟨h1, rfl⟩
  cases h1
  exact h
theorem zq_l {r0 : Int64} {u0 : zm_S} {P : Int64 → zm_S → Prop} (h : P r0 u0) : ∀ (r : Int64) (u : zm_S), zq (.long r0) u0 (.long r) u → P r u := by
  rintro r u ⟨h1, rfl⟩
  cases h1
  exact h
theorem zq_v {u0 : zm_S} {P : zm_S → Prop} (h : P u0) : ∀ (u : zm_S), zq .null u0 .null u → P u := by
  rintro u ⟨-, rfl⟩
  exact h
theorem zq_m (r0 : Value) (w0 : zm_S) : zq r0 w0 r0 w0 := ⟨rfl, rfl⟩
/-- an answer, and something of the contents behind it -/
def zp (r0 : Value) (B : zm_S → Prop) : Value → zm_S → Prop := fun r u => r = r0 ∧ B u
theorem zp_i {r0 : Int32} {B : zm_S → Prop} {P : Int32 → zm_S → Prop} (h : ∀ u, B u → P r0 u) : ∀ (r : Int32) (u : zm_S), zp (.int r0) B (.int r) u → P r u := by
  rintro r u ⟨h1, h2⟩
  cases h1
  exact h u h2
theorem zp_l {r0 : Int64} {B : zm_S → Prop} {P : Int64 → zm_S → Prop} (h : ∀ u, B u → P r0 u) : ∀ (r : Int64) (u : zm_S), zp (.long r0) B (.long r) u → P r u := by
  rintro r u ⟨h1, h2⟩
  cases h1
  exact h u h2
theorem zp_v {B : zm_S → Prop} {P : zm_S → Prop} (h : ∀ u, B u → P u) : ∀ (u : zm_S), zp .null B .null u → P u := fun u ⟨_, h2⟩ => h u h2
/-- yes or no -/
def zi (c : Prop) [Decidable c] : Int32 := if c then 1 else 0
theorem zi_0 {c : Prop} [Decidable c] : zi c = 0 ↔ ¬ c := by
  unfold zi
  split
  · rename_i h
    exact ⟨fun q => absurd q (by decide), fun q => absurd h q⟩
  · rename_i h
    exact ⟨fun _ => h, fun _ => rfl⟩
theorem zi_n0 {c : Prop} [Decidable c] : ¬ zi c = 0 ↔ c := by rw [zi_0, Decidable.not_not]
theorem zi_t {c : Prop} [Decidable c] (h : c) : zi c = 1 := if_pos h
theorem zi_f {c : Prop} [Decidable c] (h : ¬ c) : zi c = 0 := if_neg h
theorem zi_and {c : Prop} [Decidable c] : zi c &&& 1 = zi c := by
  unfold zi
  split <;> rfl
theorem zi_01 {c : Prop} [Decidable c] : zi c = 0 ∨ zi c = 1 := by
  unfold zi
  split
  · exact Or.inr rfl
  · exact Or.inl rfl
theorem zi_cong {c e : Prop} [Decidable c] [Decidable e] (h : c ↔ e) : zi c = zi e := by
  unfold zi
  by_cases hc : c
  · rw [if_pos hc, if_pos (h.mp hc)]
  · rw [if_neg hc, if_neg (fun q => hc (h.mpr q))]
/-! ===== leaves ===== -/
theorem k_within {d : Nat} {w : zm_S} (a b : Int32) : zm_C zc_H d mX7_within [.int a, .int b] w (zq (.int (zi (0 ≤ a ∧ a < b))) w) := by
  refine zm_C.of mtX7_within.1.2.2.2.2.2.2 rfl (Nat.le_of_ble_eq_true rfl) ?_
  refine gX7_within_0 (fun h => ?_) (fun h => ?_)
  · refine gX7_within_13 ?_
    rw [zi_f (fun q => absurd q.1 (by rw [Int32.not_le]; exact h))]
    exact zq_m _ _
  · refine gX7_within_4 (fun h2 => ?_) (fun h2 => ?_)
    · refine gX7_within_13 ?_
      rw [zi_f (fun q => absurd q.2 (by rw [Int32.not_lt]; exact h2))]
      exact zq_m _ _
    · refine gX7_within_9 ?_
      rw [zi_t ⟨Int32.not_lt.mp h, Int32.not_le.mp h2⟩]
      exact zq_m _ _
theorem k_in {d : Nat} {w : zm_S} (a lo hi : Int64) : zm_C zd_H d mX8_in [.long a, .long lo, .long hi] w (zq (.int (zi (lo ≤ a ∧ a ≤ hi))) w) := by
  refine zm_C.of mtX8_in.1.2.2.2.2.2.2 rfl (Nat.le_of_ble_eq_true rfl) ?_
  refine gX8_in_0 (fun h => ?_) (fun h => ?_)
  · refine gX8_in_17 ?_
    rw [zi_f (fun q => absurd ((lg_cmp_ge a lo).mpr q.1) (Int32.not_le.mpr h))]
    exact zq_m _ _
  · refine gX8_in_6 (fun h2 => ?_) (fun h2 => ?_)
    · refine gX8_in_17 ?_
      rw [zi_f (fun q => absurd ((lg_cmp_le a hi).mpr q.2) (Int32.not_le.mpr h2))]
      exact zq_m _ _
    · refine gX8_in_13 ?_
      rw [zi_t ⟨(lg_cmp_ge a lo).mp (Int32.not_lt.mp h), (lg_cmp_le a hi).mp (Int32.not_lt.mp h2)⟩]
      exact zq_m _ _
theorem k_isTwo {d : Nat} {w : zm_S} (a : Int32) : zm_C zd_H (d + 1) mX8_isTwo [.int a] w (zq (.int (zi (0 ≤ a ∧ a ≤ 1))) w) := by
  refine zm_C.of mtX8_isTwo.1.2.2.2.2.2.2 rfl (Nat.le_of_ble_eq_true rfl) ?_
  refine gX8_isTwo_0 (k_in _ _ _) (zq_i ?_)
  refine gX8_isTwo_7 zi_and ?_
  rw [zi_cong (show (0 : Int64) ≤ a.toInt64 ∧ a.toInt64 ≤ 1 ↔ 0 ≤ a ∧ a ≤ 1 from by rw [← fa_wide_le, ← fa_wide_le]; exact Iff.rfl)]
  exact zq_m _ _
/-- a walk to more than is asked -/
theorem zm_T.post {SH : List zm_H} {d : Nat} {M : zm_M} {Q Q' : Value → zm_S → Prop} {pc : Nat} {ls : List (Nat × Value)} {st : List Value} {w : zm_S} (hq : ∀ r u, Q r u → Q' r u) (h : zm_T SH d M Q pc ls st w) : zm_T SH d M Q' pc ls st w := by
  intro l D ca ad p e s m args below meth c H locs la hX hY hl T hT X
  obtain ⟨t, h1, o, h2, h3, h4, h5⟩ := h l D ca ad p e s m args below meth c H locs la hX hY hl T hT X
  exact ⟨t, h1, o, h2, h3, zm_Q.post hq h4, h5⟩
