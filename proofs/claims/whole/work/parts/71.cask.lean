/-! ===== the fewest questions, by itself ===== -/
def zs_FF (n : Nat) (H : Nat → Nat) (k : Nat) : Nat := zs_ft n H (k + 1) k
theorem zs_ft_FF (n : Nat) (H : Nat → Nat) {j : Nat} : ∀ {k : Nat}, j < k → zs_ft n H k j = zs_FF n H j
  | 0, h => absurd h (Nat.not_lt_zero j)
  | k + 1, h => by
    by_cases c : j = k
    · rw [c]; rfl
    · rw [zs_ft_keep n H k j (by omega)]
      exact zs_ft_FF n H (by omega)
theorem zy_sub_lt {k x : Nat} (h : k ^^^ (k &&& x) ≠ 0) : k &&& x < k := by
  have h1 : k &&& x ≤ k := Nat.and_le_left
  have h2 : k &&& x ≠ k := fun q => h (by rw [q, Nat.xor_self])
  omega
theorem zy_xa_le (k x : Nat) : k ^^^ (k &&& x) ≤ k := by
  have e : k ^^^ (k &&& x) = k &&& (k ^^^ (k &&& x)) := by
    apply Nat.eq_of_testBit_eq
    intro i
    rw [Nat.testBit_and, Nat.testBit_xor, Nat.testBit_and]
    cases k.testBit i <;> cases x.testBit i <;> rfl
  rw [e]
  exact Nat.and_le_left
theorem zy_xa_lt2 {k x : Nat} (h : k &&& x ≠ 0) : k ^^^ (k &&& x) < k := by
  have h1 := zy_xa_le k x
  have h2 : k ^^^ (k &&& x) ≠ k := fun q => h (by
    have : k ^^^ (k ^^^ (k &&& x)) = k ^^^ k := by rw [q]
    rw [← Nat.xor_assoc, Nat.xor_self, Nat.zero_xor] at this
    exact this)
  omega
theorem zs_by_FF (n : Nat) (H : Nat → Nat) (q : Nat) {k K : Nat} (hK : k ≤ K) : zs_by H (zs_ft n H K) q k = zs_by H (zs_FF n H) q k := by
  unfold zs_by
  by_cases c : k &&& H q = 0 ∨ k ^^^ (k &&& H q) = 0
  · rw [if_pos c, if_pos c]
  · rw [if_neg c, if_neg c]
    have h1 := zy_sub_lt (k := k) (x := H q) (fun z => c (Or.inr z))
    have h2 := zy_xa_lt2 (k := k) (x := H q) (fun z => c (Or.inl z))
    rw [zs_ft_FF n H (by omega), zs_ft_FF n H (by omega)]
theorem zs_fv_FF (n : Nat) (H : Nat → Nat) (k : Nat) : ∀ m, zs_fv H (zs_ft n H k) k m = zs_fv H (zs_FF n H) k m
  | 0 => rfl
  | m + 1 => by rw [zs_fv, zs_fv, zs_by_FF n H m (Nat.le_refl k), zs_fv_FF n H k m]
theorem zs_FF_eq (n : Nat) (H : Nat → Nat) (k : Nat) : zs_FF n H k = zs_fv H (zs_FF n H) k n := by
  rw [← zs_fv_FF]
  unfold zs_FF
  rw [zs_ft]
  exact if_pos rfl
theorem zs_fv_iff {H f : Nat → Nat} {k l : Nat} (hl : l < 10000) : ∀ m, zs_fv H f k m ≤ l ↔ (k &&& (k - 1) = 0 ∨ ∃ q, q < m ∧ zs_by H f q k ≤ l)
  | 0 => by
    rw [zs_fv]
    by_cases c : k &&& (k - 1) = 0
    · rw [if_pos c]; exact ⟨fun _ => Or.inl c, fun _ => Nat.zero_le _⟩
    · rw [if_neg c]
      refine ⟨fun h => by omega, ?_⟩
      rintro (h | ⟨q, hq, -⟩)
      · exact absurd h c
      · exact absurd hq (Nat.not_lt_zero q)
  | m + 1 => by
    have ih := zs_fv_iff (H := H) (f := f) (k := k) hl m
    rw [zs_fv, show (min (zs_by H f m k) (zs_fv H f k m) ≤ l) ↔ (zs_by H f m k ≤ l ∨ zs_fv H f k m ≤ l) by omega, ih]
    constructor
    · rintro (h | h | ⟨q, hq, h⟩)
      · exact Or.inr ⟨m, by omega, h⟩
      · exact Or.inl h
      · exact Or.inr ⟨q, by omega, h⟩
    · rintro (h | ⟨q, hq, h⟩)
      · exact Or.inr (Or.inl h)
      · by_cases c : q = m
        · subst c; exact Or.inl h
        · exact Or.inr (Or.inr ⟨q, by omega, h⟩)
theorem zs_FF_iff (n : Nat) (H : Nat → Nat) {k l : Nat} (hl : l < 10000) : zs_FF n H k ≤ l ↔ (k &&& (k - 1) = 0 ∨ ∃ q, q < n ∧ zs_by H (zs_FF n H) q k ≤ l) := by
  rw [zs_FF_eq]; exact zs_fv_iff hl n
theorem zs_by_iff {H f : Nat → Nat} {q k l : Nat} (hl : l < 9999) : zs_by H f q k ≤ l + 1 ↔ (k &&& H q ≠ 0 ∧ k ^^^ (k &&& H q) ≠ 0 ∧ f (k &&& H q) ≤ l ∧ f (k ^^^ (k &&& H q)) ≤ l) := by
  unfold zs_by
  by_cases c : k &&& H q = 0 ∨ k ^^^ (k &&& H q) = 0
  · rw [if_pos c]
    refine ⟨fun h => by omega, fun h => ?_⟩
    rcases c with c | c
    · exact absurd c h.1
    · exact absurd c h.2.1
  · rw [if_neg c]
    have c1 : k &&& H q ≠ 0 := fun z => c (Or.inl z)
    have c2 : k ^^^ (k &&& H q) ≠ 0 := fun z => c (Or.inr z)
    constructor
    · intro h
      exact ⟨c1, c2, by omega, by omega⟩
    · rintro ⟨-, -, h1, h2⟩
      omega
theorem zpc_split (k x : Nat) : zpc k = zpc (k &&& x) + zpc (k ^^^ (k &&& x)) := by
  rw [← zpc_or]
  · congr 1
    apply Nat.eq_of_testBit_eq
    intro i
    rw [Nat.testBit_or, Nat.testBit_xor, Nat.testBit_and]
    cases k.testBit i <;> cases x.testBit i <;> rfl
  · apply Nat.eq_of_testBit_eq
    intro i
    rw [Nat.testBit_and, Nat.testBit_xor, Nat.testBit_and, Nat.zero_testBit]
    cases k.testBit i <;> cases x.testBit i <;> rfl
theorem zs_FF_info (n : Nat) (H : Nat → Nat) : ∀ l k, l < 9000 → k < 16384 → zs_FF n H k ≤ l → zpc k ≤ 2 ^ l
  | 0, k, _, hk, h => by
    rw [zs_FF_iff n H (by omega)] at h
    rcases h with h | ⟨q, hq, h⟩
    · exact (zpc_one hk).mpr h
    · exfalso
      unfold zs_by at h
      split at h <;> omega
  | l + 1, k, hl, hk, h => by
    rw [zs_FF_iff n H (by omega)] at h
    rcases h with h | ⟨q, hq, h⟩
    · have := (zpc_one hk).mpr h
      have := Nat.two_pow_pos (l + 1)
      omega
    · rw [zs_by_iff (by omega)] at h
      have h1 := zs_FF_info n H l _ (by omega) (Nat.lt_of_le_of_lt Nat.and_le_left hk) h.2.2.1
      have h2 := zs_FF_info n H l _ (by omega) (zy_xa_lt hk) h.2.2.2
      have := zpc_split k (H q)
      rw [Nat.pow_succ]
      omega
theorem zy_one : ∀ i, i < 14 → 2 ^ i &&& (2 ^ i - 1) = 0 := by decide +kernel
/-- all can be told apart, question by question -/
theorem zs_FF_n (n : Nat) {M : Nat → Nat} {c : Nat} (hc : c ≤ 14) (hM : ∀ i, i < c → M i < 2 ^ n) (hinj : ∀ i j, i < c → j < c → M i = M j → i = j) (hn : n < 9000) : ∀ (m j k : Nat), j + m = n → k < 2 ^ c → k ≠ 0 → (∀ i i', k.testBit i = true → k.testBit i' = true → ∀ q, q < j → (M i).testBit q = (M i').testBit q) → zs_FF n (zs_hs M c) k ≤ m := by
  have hin : ∀ k i, k < 2 ^ c → k.testBit i = true → i < c := by
    intro k i hk hb
    apply Decidable.byContradiction
    intro q
    rw [Nat.testBit_lt_two_pow (Nat.lt_of_lt_of_le hk (Nat.pow_le_pow_right (by decide) (by omega)))] at hb
    cases hb
  have hH : ∀ q i, i < c → (zs_hs M c q).testBit i = (M i).testBit q := by
    intro q i hi
    unfold zs_hs
    rw [zb_bit]
    simp [hi]
  intro m
  induction m with
  | zero =>
    intro j k hj hk hk0 hag
    obtain rfl : j = n := by omega
    rw [zs_FF_iff _ _ (by omega)]
    left
    obtain ⟨i, hi⟩ : ∃ i, k.testBit i = true := Classical.byContradiction (fun hc => hk0 (Nat.eq_of_testBit_eq (fun i => by rw [Nat.zero_testBit]; cases e : k.testBit i; rfl; exact absurd ⟨i, e⟩ hc)))
    have hic := hin k i hk hi
    have : k = 2 ^ i := by
      apply Nat.eq_of_testBit_eq
      intro i'
      rw [Nat.testBit_two_pow]
      by_cases c2 : i = i'
      · rw [← c2, hi]; simp
      · cases e : k.testBit i'
        · simp [c2]
        · have hic' := hin k i' hk e
          exfalso
          apply c2
          apply hinj i i' hic hic'
          apply Nat.eq_of_testBit_eq
          intro q
          by_cases hq : q < j
          · exact hag i i' hi e q hq
          · rw [Nat.testBit_lt_two_pow (Nat.lt_of_lt_of_le (hM i hic) (Nat.pow_le_pow_right (by decide) (by omega))), Nat.testBit_lt_two_pow (Nat.lt_of_lt_of_le (hM i' hic') (Nat.pow_le_pow_right (by decide) (by omega)))]
    rw [this]
    exact zy_one i (by omega)
  | succ m ih =>
    intro j k hj hk hk0 hag
    by_cases c1 : k &&& zs_hs M c j = 0
    · refine Nat.le_trans (ih (j + 1) k (by omega) hk hk0 (fun i i' hi hi' q hq => ?_)) (by omega)
      by_cases z : q = j
      · subst z
        have e := congrArg (fun t => t.testBit i) c1
        have e' := congrArg (fun t => t.testBit i') c1
        simp only [Nat.testBit_and, Nat.zero_testBit, hi, hi', Bool.true_and] at e e'
        rw [hH _ _ (hin k i hk hi)] at e
        rw [hH _ _ (hin k i' hk hi')] at e'
        rw [e, e']
      · exact hag i i' hi hi' q (by omega)
    · by_cases c2 : k ^^^ (k &&& zs_hs M c j) = 0
      · refine Nat.le_trans (ih (j + 1) k (by omega) hk hk0 (fun i i' hi hi' q hq => ?_)) (by omega)
        by_cases z : q = j
        · subst z
          have e := congrArg (fun t => t.testBit i) c2
          have e' := congrArg (fun t => t.testBit i') c2
          simp only [Nat.testBit_xor, Nat.testBit_and, Nat.zero_testBit, hi, hi', Bool.true_and] at e e'
          rw [hH _ _ (hin k i hk hi)] at e
          rw [hH _ _ (hin k i' hk hi')] at e'
          have e1 : (M i).testBit q = true := by simpa using e
          have e2 : (M i').testBit q = true := by simpa using e'
          rw [e1, e2]
        · exact hag i i' hi hi' q (by omega)
      · rw [zs_FF_iff _ _ (by omega)]
        right
        refine ⟨j, by omega, ?_⟩
        rw [zs_by_iff (by omega)]
        refine ⟨c1, c2, ?_, ?_⟩
        · refine ih (j + 1) _ (by omega) (Nat.lt_of_le_of_lt Nat.and_le_left hk) c1 (fun i i' hi hi' q hq => ?_)
          rw [Nat.testBit_and, Bool.and_eq_true] at hi hi'
          by_cases z : q = j
          · subst z
            rw [hH _ _ (hin k i hk hi.1)] at hi
            rw [hH _ _ (hin k i' hk hi'.1)] at hi'
            rw [hi.2, hi'.2]
          · exact hag i i' hi.1 hi'.1 q (by omega)
        · refine ih (j + 1) _ (by omega) (Nat.lt_of_le_of_lt (zy_xa_le _ _) hk) c2 (fun i i' hi hi' q hq => ?_)
          have un : ∀ t, (k ^^^ (k &&& zs_hs M c j)).testBit t = true → k.testBit t = true ∧ (zs_hs M c j).testBit t = false := by
            intro t ht
            rw [Nat.testBit_xor, Nat.testBit_and] at ht
            cases e1 : k.testBit t <;> cases e2 : (zs_hs M c j).testBit t <;> rw [e1, e2] at ht <;> simp at ht
            exact ⟨rfl, rfl⟩
          have hi := un i hi
          have hi' := un i' hi'
          by_cases z : q = j
          · subst z
            rw [hH _ _ (hin k i hk hi.1)] at hi
            rw [hH _ _ (hin k i' hk hi'.1)] at hi'
            rw [hi.2, hi'.2]
          · exact hag i i' hi.1 hi'.1 q (by omega)
theorem zs_my_at (a : zs_A) (w1 w2 : Nat) : ∀ N i, i < zs_pn a w1 w2 N → ∃ k, k < N ∧ zs_ps a w1 w2 k = true ∧ zs_pn a w1 w2 k = i ∧ zs_my a w1 w2 N i = k
  | 0, i, h => absurd h (Nat.not_lt_zero i)
  | N + 1, i, h => by
    rw [zs_pn_1] at h
    have e : zs_my a w1 w2 (N + 1) i = if zs_ps a w1 w2 N = true ∧ i = zs_pn a w1 w2 N then N else zs_my a w1 w2 N i := rfl
    by_cases c : zs_ps a w1 w2 N = true ∧ i = zs_pn a w1 w2 N
    · exact ⟨N, by omega, c.1, c.2.symm, by rw [e, if_pos c]⟩
    · have hi : i < zs_pn a w1 w2 N := by
        by_cases c1 : zs_ps a w1 w2 N = true
        · rw [if_pos c1] at h
          have : i ≠ zs_pn a w1 w2 N := fun z => c ⟨c1, z⟩
          omega
        · rw [if_neg c1] at h
          omega
      obtain ⟨k, h1, h2, h3, h4⟩ := zs_my_at a w1 w2 N i hi
      exact ⟨k, by omega, h2, h3, by rw [e, if_neg c]; exact h4⟩
theorem zs_FF_all {a : zs_A} (ha : zs_ok a) (w1 w2 : Nat) (hc : zs_pn a w1 w2 (2 ^ a.1 0 0) ≤ 14) (h0 : zs_pn a w1 w2 (2 ^ a.1 0 0) ≠ 0) : zs_FF (a.1 0 0) (zs_hs (zs_my a w1 w2 (2 ^ a.1 0 0)) (zs_pn a w1 w2 (2 ^ a.1 0 0))) (2 ^ zs_pn a w1 w2 (2 ^ a.1 0 0) - 1) ≤ a.1 0 0 := by
  have hn := ha.1
  have hp : 2 ≤ 2 ^ zs_pn a w1 w2 (2 ^ a.1 0 0) := Nat.pow_le_pow_right (n := 2) (i := 1) (by decide) (by omega)
  refine zs_FF_n (a.1 0 0) hc (fun i hi => ?_) (fun i j hi hj e => ?_) (by omega) (a.1 0 0) 0 _ (by omega) (by omega) (by omega) (fun i i' _ _ q hq => absurd hq (Nat.not_lt_zero q))
  · obtain ⟨k, h1, -, -, h4⟩ := zs_my_at a w1 w2 _ i hi
    rw [h4]; exact h1
  · obtain ⟨k, h1, h2, h3, h4⟩ := zs_my_at a w1 w2 _ i hi
    obtain ⟨k', h1', h2', h3', h4'⟩ := zs_my_at a w1 w2 _ j hj
    rw [h4, h4'] at e
    rw [← h3, ← h3', e]
