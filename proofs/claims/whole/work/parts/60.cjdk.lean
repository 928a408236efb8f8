/-! ===== the JDK's: the lowest bit, rows filled ===== -/
def zt (x : Nat) : Nat := if x.testBit 0 then 0 else if x.testBit 1 then 1 else if x.testBit 2 then 2 else if x.testBit 3 then 3 else if x.testBit 4 then 4 else if x.testBit 5 then 5 else 6
theorem zt_key : ∀ x, x < 128 → x ≠ 0 → (nI x ^^^ -1) &&& (nI x - 1) = nI (2 ^ zt x - 1) ∧ zt x < 7 := by decide +kernel
theorem k_ntz {SH : List zm_H} {d : Nat} {w : zm_S} {x : Nat} (h : x < 128) (h0 : x ≠ 0) : zm_C SH d mJ6_numberOfTrailingZeros_0f7a4 [.int (nI x)] w (zq (.int (nI (zt x))) w) := by
  refine zm_C.of mtJ6_numberOfTrailingZeros_0f7a4.1.2.2.2.2.2.2 rfl (Nat.le_of_ble_eq_true rfl) ?_
  obtain ⟨e, ht⟩ := zt_key x h h0
  refine gJ6_numberOfTrailingZeros_0f7a4_0 (fun g => ?_) (fun g => gJ6_numberOfTrailingZeros_0f7a4_12 ?_)
  · rw [e] at g ⊢
    generalize zt x = t at g ht ⊢
    rcases (show t = 0 ∨ t = 1 ∨ t = 2 ∨ t = 3 ∨ t = 4 ∨ t = 5 ∨ t = 6 by omega) with rfl | rfl | rfl | rfl | rfl | rfl | rfl
    · exact absurd g (by decide)
    · refine gJ6_numberOfTrailingZeros_0f7a4_17 (fun _ => ?_) (fun q => absurd (by decide) q)
      refine gJ6_numberOfTrailingZeros_0f7a4_34 (fun _ => ?_) (fun q => absurd (by decide) q)
      refine gJ6_numberOfTrailingZeros_0f7a4_49 (fun _ => ?_) (fun q => absurd (by decide) q)
      refine gJ6_numberOfTrailingZeros_0f7a4_62 (fun _ => ?_) (fun q => absurd (by decide) q)
      exact gJ6_numberOfTrailingZeros_0f7a4_74 ⟨by decide, rfl⟩
    · refine gJ6_numberOfTrailingZeros_0f7a4_17 (fun _ => ?_) (fun q => absurd (by decide) q)
      refine gJ6_numberOfTrailingZeros_0f7a4_34 (fun _ => ?_) (fun q => absurd (by decide) q)
      refine gJ6_numberOfTrailingZeros_0f7a4_49 (fun _ => ?_) (fun q => absurd (by decide) q)
      refine gJ6_numberOfTrailingZeros_0f7a4_62 (fun _ => ?_) (fun q => absurd (by decide) q)
      exact gJ6_numberOfTrailingZeros_0f7a4_74 ⟨by decide, rfl⟩
    · refine gJ6_numberOfTrailingZeros_0f7a4_17 (fun _ => ?_) (fun q => absurd (by decide) q)
      refine gJ6_numberOfTrailingZeros_0f7a4_34 (fun _ => ?_) (fun q => absurd (by decide) q)
      refine gJ6_numberOfTrailingZeros_0f7a4_49 (fun _ => ?_) (fun q => absurd (by decide) q)
      refine gJ6_numberOfTrailingZeros_0f7a4_62 (fun q => absurd q (by decide)) (fun _ => gJ6_numberOfTrailingZeros_0f7a4_67 ?_)
      exact gJ6_numberOfTrailingZeros_0f7a4_74 ⟨by decide, rfl⟩
    · refine gJ6_numberOfTrailingZeros_0f7a4_17 (fun _ => ?_) (fun q => absurd (by decide) q)
      refine gJ6_numberOfTrailingZeros_0f7a4_34 (fun _ => ?_) (fun q => absurd (by decide) q)
      refine gJ6_numberOfTrailingZeros_0f7a4_49 (fun _ => ?_) (fun q => absurd (by decide) q)
      refine gJ6_numberOfTrailingZeros_0f7a4_62 (fun q => absurd q (by decide)) (fun _ => gJ6_numberOfTrailingZeros_0f7a4_67 ?_)
      exact gJ6_numberOfTrailingZeros_0f7a4_74 ⟨by decide, rfl⟩
    · refine gJ6_numberOfTrailingZeros_0f7a4_17 (fun _ => ?_) (fun q => absurd (by decide) q)
      refine gJ6_numberOfTrailingZeros_0f7a4_34 (fun _ => ?_) (fun q => absurd (by decide) q)
      refine gJ6_numberOfTrailingZeros_0f7a4_49 (fun q => absurd q (by decide)) (fun _ => gJ6_numberOfTrailingZeros_0f7a4_55 ?_)
      refine gJ6_numberOfTrailingZeros_0f7a4_62 (fun _ => ?_) (fun q => absurd (by decide) q)
      exact gJ6_numberOfTrailingZeros_0f7a4_74 ⟨by decide, rfl⟩
    · refine gJ6_numberOfTrailingZeros_0f7a4_17 (fun _ => ?_) (fun q => absurd (by decide) q)
      refine gJ6_numberOfTrailingZeros_0f7a4_34 (fun _ => ?_) (fun q => absurd (by decide) q)
      refine gJ6_numberOfTrailingZeros_0f7a4_49 (fun q => absurd q (by decide)) (fun _ => gJ6_numberOfTrailingZeros_0f7a4_55 ?_)
      refine gJ6_numberOfTrailingZeros_0f7a4_62 (fun _ => ?_) (fun q => absurd (by decide) q)
      exact gJ6_numberOfTrailingZeros_0f7a4_74 ⟨by decide, rfl⟩
  · rw [e] at g ⊢
    generalize zt x = t at g ht ⊢
    have ht0 : t = 0 := by
      rcases (show t = 0 ∨ t = 1 ∨ t = 2 ∨ t = 3 ∨ t = 4 ∨ t = 5 ∨ t = 6 by omega) with rfl | rfl | rfl | rfl | rfl | rfl | rfl <;> first | rfl | exact absurd (by decide) g
    subst ht0
    exact ⟨by decide, rfl⟩
/-- nothing but one place has changed -/
def zm_K (o : Nat) (w u : zm_S) : Prop := (∀ k, k ≠ o → u.1 k = w.1 k) ∧ u.2 = w.2
theorem l_fill {SH : List zm_H} {d o n : Nat} (hn : n < 2 ^ 31) (ho : SH[o]? = some (.inl (.int, n, []))) {x : Int32} {w : zm_S} : ∀ (m k : Nat) (u : zm_S), k + m = n → zm_K o w u → (∀ i, i < k → u.1 o i = x) → zm_T SH d mJ7_fill_53178 (zp .null (fun u => zm_K o w u ∧ ∀ i, i < n → u.1 o i = x)) 5 [(0, .ref o), (1, .int x), (2, .int (nI k)), (3, .int (nI n))] [] u := by
  intro m
  induction m with
  | zero =>
    intro k u hk hK hx
    obtain rfl : k = n := by omega
    exact gJ7_fill_53178_5 ho (fun _ => gJ7_fill_53178_20 ⟨rfl, hK, hx⟩) (fun q => absurd (Int32.le_refl _) q)
  | succ m ih =>
    intro k u hk hK hx
    refine gJ7_fill_53178_5 ho (fun q => absurd q (nI_ge (by omega) (by omega))) (fun _ => ?_)
    refine gJ7_fill_53178_10 ho (vp_in_nI (by omega) (by omega)) ?_
    rw [nI_1, zx_clamp (by omega)]
    refine ih (k + 1) _ (by omega) ⟨fun j hj => by rw [zm_pa_ne hj]; exact hK.1 j hj, hK.2⟩ (fun i hi => ?_)
    rw [zm_pa_at]
    by_cases z : i = k
    · rw [z, pk_us]
    · rw [pk_un z]; exact hx i (by omega)
theorem k_fill {SH : List zm_H} {d o n : Nat} (hn : n < 2 ^ 31) (ho : SH[o]? = some (.inl (.int, n, []))) (x : Int32) (w : zm_S) : zm_C SH d mJ7_fill_53178 [.ref o, .int x] w (zp .null (fun u => zm_K o w u ∧ ∀ i, i < n → u.1 o i = x)) := by
  refine zm_C.of mtJ7_fill_53178.1.2.2.2.2.2.2 rfl (Nat.le_of_ble_eq_true rfl) ?_
  exact gJ7_fill_53178_0 ho (l_fill hn ho n 0 w (by omega) ⟨fun _ _ => rfl, rfl⟩ (fun i hi => absurd hi (Nat.not_lt_zero i)))
theorem zm_qa_at (w : zm_S) (k : Nat) (f : Nat → Int64) : (zm_qa w k f).2 k = f := if_pos rfl
theorem zm_qa_ne {w : zm_S} {k k' : Nat} {f : Nat → Int64} (h : k' ≠ k) : (zm_qa w k f).2 k' = w.2 k' := if_neg h
theorem pk_lus (f : Nat → Int64) (j : Nat) (x : Int64) : vp_updL f j x j = x := if_pos rfl
theorem pk_lun {f : Nat → Int64} {j i : Nat} {x : Int64} (h : i ≠ j) : vp_updL f j x i = f i := if_neg h
def zm_L (o : Nat) (w u : zm_S) : Prop := (∀ k, k ≠ o → u.2 k = w.2 k) ∧ u.1 = w.1
theorem l_fillL {SH : List zm_H} {d o n : Nat} (hn : n < 2 ^ 31) (ho : SH[o]? = some (.inl (.long, n, []))) {x : Int64} {w : zm_S} : ∀ (m k : Nat) (u : zm_S), k + m = n → zm_L o w u → (∀ i, i < k → u.2 o i = x) → zm_T SH d mJ7_fill_d0a16 (zp .null (fun u => zm_L o w u ∧ ∀ i, i < n → u.2 o i = x)) 6 [(0, .ref o), (1, .long x), (3, .int (nI k)), (4, .int (nI n))] [] u := by
  intro m
  induction m with
  | zero =>
    intro k u hk hK hx
    obtain rfl : k = n := by omega
    exact gJ7_fill_d0a16_6 ho (fun _ => gJ7_fill_d0a16_22 ⟨rfl, hK, hx⟩) (fun q => absurd (Int32.le_refl _) q)
  | succ m ih =>
    intro k u hk hK hx
    refine gJ7_fill_d0a16_6 ho (fun q => absurd q (nI_ge (by omega) (by omega))) (fun _ => ?_)
    refine gJ7_fill_d0a16_12 ho (vp_in_nI (by omega) (by omega)) ?_
    rw [nI_1, zx_clamp (by omega)]
    refine ih (k + 1) _ (by omega) ⟨fun j hj => by rw [zm_qa_ne hj]; exact hK.1 j hj, hK.2⟩ (fun i hi => ?_)
    rw [zm_qa_at]
    by_cases z : i = k
    · rw [z, pk_lus]
    · rw [pk_lun z]; exact hx i (by omega)
theorem k_fillL {SH : List zm_H} {d o n : Nat} (hn : n < 2 ^ 31) (ho : SH[o]? = some (.inl (.long, n, []))) (x : Int64) (w : zm_S) : zm_C SH d mJ7_fill_d0a16 [.ref o, .long x] w (zp .null (fun u => zm_L o w u ∧ ∀ i, i < n → u.2 o i = x)) := by
  refine zm_C.of mtJ7_fill_d0a16.1.2.2.2.2.2.2 rfl (Nat.le_of_ble_eq_true rfl) ?_
  exact gJ7_fill_d0a16_0 ho (l_fillL hn ho n 0 w (by omega) ⟨fun _ _ => rfl, rfl⟩ (fun i hi => absurd hi (Nat.not_lt_zero i)))
