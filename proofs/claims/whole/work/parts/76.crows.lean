/-! ===== rows, step by step ===== -/
def zo_s (l : List Nat) : Nat := l.foldl (fun s x => s ||| 2 ^ x) 0
def zo_t (W : Nat → Nat → Nat) (p : Nat) (sm : Nat × Nat) (x : Nat) : Nat × Nat := (sm.1 ||| 2 ^ x, min (W p (sm.1 ||| 2 ^ x)) sm.2)
def zo_m (W : Nat → Nat → Nat) (p : Nat) (l : List Nat) : Nat × Nat := l.foldl (zo_t W p) (0, W p 0)
theorem zo_m1f (W : Nat → Nat → Nat) (p : Nat) : ∀ (l : List Nat) (sm : Nat × Nat), (l.foldl (zo_t W p) sm).1 = l.foldl (fun s x => s ||| 2 ^ x) sm.1
  | [], _ => rfl
  | x :: l, sm => by rw [List.foldl_cons, List.foldl_cons, zo_m1f W p l]; rfl
theorem zo_m1 (W : Nat → Nat → Nat) (p : Nat) (l : List Nat) : (zo_m W p l).1 = zo_s l := zo_m1f W p l _
theorem zo_s1 (l : List Nat) (x : Nat) : zo_s (l ++ [x]) = zo_s l ||| 2 ^ x := by
  unfold zo_s
  rw [List.foldl_append]; rfl
theorem zo_m_1 (W : Nat → Nat → Nat) (p : Nat) (l : List Nat) (x : Nat) : (zo_m W p (l ++ [x])).2 = min (W p (zo_s (l ++ [x]))) (zo_m W p l).2 := by
  rw [zo_s1, ← zo_m1 W p l]
  unfold zo_m
  rw [List.foldl_append]; rfl
theorem zs_om_take (W : Nat → Nat → Nat) (l : List Nat) (p : Nat) : ∀ k, k ≤ l.length → zs_om W l p k = zo_m W p (l.take k)
  | 0, _ => by rw [List.take_zero]; rfl
  | k + 1, hk => by
    have ih := zs_om_take W l p k (by omega)
    have e : l.take (k + 1) = l.take k ++ [l.getD k 0] := by
      rw [List.take_succ, List.getElem?_eq_getElem (by omega), List.getD_eq_getElem?_getD, List.getElem?_eq_getElem (by omega)]; rfl
    rw [zs_om, ih, e]
    unfold zo_m
    rw [List.foldl_append]; rfl
theorem zs_of_zo (W : Nat → Nat → Nat) (l : List Nat) : zs_of W l 12 = fb_sm (fun p => (zo_m W p l).2) 12 := by
  unfold zs_of
  exact fb_sm_cong (fun p _ => by rw [zs_om_take W l p _ (Nat.le_refl _), List.take_length])
theorem zo_low {W : Nat → Nat → Nat} {p s0 f : Nat} (hf : ∀ s, s0 &&& s = s0 → f ≤ W p s) : ∀ (r : List Nat) (sm : Nat × Nat), s0 &&& sm.1 = s0 → min sm.2 f ≤ (r.foldl (zo_t W p) sm).2
  | [], sm, _ => Nat.min_le_left _ _
  | x :: r, sm, h => by
    have h2 : s0 &&& (sm.1 ||| 2 ^ x) = s0 := by
      apply Nat.eq_of_testBit_eq
      intro i
      have e := congrArg (fun t => t.testBit i) h
      simp only [Nat.testBit_and] at e
      rw [Nat.testBit_and, Nat.testBit_or]
      cases hs : s0.testBit i
      · rfl
      · rw [hs, Bool.true_and] at e; rw [e]; rfl
    have ih := zo_low hf r (zo_t W p sm x) h2
    have := hf _ h2
    rw [List.foldl_cons]
    refine Nat.le_trans ?_ ih
    show min sm.2 f ≤ min (min (W p (sm.1 ||| 2 ^ x)) sm.2) f
    omega
theorem zo_ge {W : Nat → Nat → Nat} {p : Nat} {pre r : List Nat} {f : Nat} (hf : ∀ s, zo_s pre &&& s = zo_s pre → f ≤ W p s) : min (zo_m W p pre).2 f ≤ (zo_m W p (pre ++ r)).2 := by
  unfold zo_m
  rw [List.foldl_append]
  refine zo_low (s0 := zo_s pre) hf r _ ?_
  rw [show (pre.foldl (zo_t W p) (0, W p 0)).1 = zo_s pre from zo_m1 W p pre, Nat.and_self]
theorem zo_le0 (W : Nat → Nat → Nat) (p : Nat) : ∀ (l : List Nat) (sm : Nat × Nat), (l.foldl (zo_t W p) sm).2 ≤ sm.2
  | [], _ => Nat.le_refl _
  | x :: l, sm => by
    rw [List.foldl_cons]
    refine Nat.le_trans (zo_le0 W p l _) ?_
    show min (W p (sm.1 ||| 2 ^ x)) sm.2 ≤ sm.2
    omega
theorem zo_leE (W : Nat → Nat → Nat) (p : Nat) : ∀ (l : List Nat) (sm : Nat × Nat), l ≠ [] → (l.foldl (zo_t W p) sm).2 ≤ W p (l.foldl (zo_t W p) sm).1
  | [], _, h => absurd rfl h
  | [x], sm, _ => by
    show min (W p (sm.1 ||| 2 ^ x)) sm.2 ≤ W p (sm.1 ||| 2 ^ x)
    omega
  | x :: y :: l, sm, _ => by
    rw [List.foldl_cons]
    exact zo_leE W p (y :: l) _ (by simp)
theorem zo_leG {W : Nat → Nat → Nat} {p : Nat} {l : List Nat} (h : l ≠ []) : (zo_m W p l).2 ≤ W p (zo_s l) := by
  rw [← zo_m1 W p l]
  exact zo_leE W p l _ h
/-! what is left -/
def zo_r (n G u : Nat) : List Nat := (List.range n).filter (fun q => G.testBit q && !u.testBit q)
theorem zo_r_mem {n G u q : Nat} : q ∈ zo_r n G u ↔ (q < n ∧ G.testBit q = true ∧ u.testBit q = false) := by
  unfold zo_r
  rw [List.mem_filter, List.mem_range, Bool.and_eq_true]
  simp
theorem zo_r_erase {n G u q : Nat} (h : q ∈ zo_r n G u) : (zo_r n G u).erase q = zo_r n G (u ||| 2 ^ q) := by
  have nd : (zo_r n G u).Nodup := List.Pairwise.filter _ List.nodup_range
  rw [nd.erase_eq_filter]
  unfold zo_r
  rw [List.filter_filter]
  refine List.filter_congr (fun x _ => ?_)
  rw [Nat.testBit_or, Nat.testBit_two_pow]
  by_cases c : x = q
  · subst c; simp
  · have c2 : ¬ q = x := fun z => c z.symm
    simp [c, c2]
theorem zo_r_nil {n G u : Nat} (hG : G < 2 ^ n) (hu : u &&& G = u) : zo_r n G u = [] ↔ u = G := by
  constructor
  · intro h
    apply Nat.eq_of_testBit_eq
    intro i
    have e := congrArg (fun t => t.testBit i) hu
    simp only [Nat.testBit_and] at e
    cases hb : G.testBit i
    · rw [hb, Bool.and_false] at e; exact e.symm
    · by_cases hi : i < n
      · cases hc : u.testBit i
        · have : i ∈ zo_r n G u := zo_r_mem.mpr ⟨hi, hb, hc⟩
          rw [h] at this; cases this
        · rfl
      · rw [Nat.testBit_lt_two_pow (Nat.lt_of_lt_of_le hG (Nat.pow_le_pow_right (by decide) (by omega)))] at hb
        cases hb
  · intro h
    subst h
    unfold zo_r
    rw [List.filter_eq_nil_iff]
    intro q _
    cases u.testBit q <;> simp
theorem zo_sub {n G u q : Nat} (hu : u &&& G = u) (h : q ∈ zo_r n G u) : (u ||| 2 ^ q) &&& G = u ||| 2 ^ q := by
  obtain ⟨-, h2, -⟩ := zo_r_mem.mp h
  apply Nat.eq_of_testBit_eq
  intro i
  have e := congrArg (fun t => t.testBit i) hu
  simp only [Nat.testBit_and] at e
  rw [Nat.testBit_and, Nat.testBit_or, Nat.testBit_two_pow]
  by_cases c : q = i
  · subst c; rw [h2, Bool.and_true]
  · simp [c]
    simpa using e
theorem zs_prm_count : ∀ (m : Nat) (R : List Nat), R.length ≤ 7 → (zs_prm m R).length ≤ 7 ^ m
  | 0, R, _ => by simp [zs_prm]
  | m + 1, R, h => by
    rw [zs_prm, Nat.pow_succ]
    have : ∀ (T : List Nat), (T.flatMap (fun x => (zs_prm m (R.erase x)).map (fun r => x :: r))).length ≤ 7 ^ m * T.length := by
      intro T
      induction T with
      | nil => simp
      | cons x T ih =>
        rw [List.flatMap_cons, List.length_append, List.length_map, List.length_cons, Nat.mul_add, Nat.mul_one]
        have := zs_prm_count m (R.erase x) (Nat.le_trans (List.length_erase_le) h)
        omega
    refine Nat.le_trans (this R) (Nat.mul_le_mul_left _ h)
/-! the fold -/
theorem zs_bfold_1 (W : Nat → Nat → Nat) (L : List (List Nat)) (l : List Nat) : zs_bfold W (L ++ [l]) = zs_bstep W (zs_bfold W L) l := by
  unfold zs_bfold
  rw [List.foldl_append]; rfl
theorem zs_bfold_app (W : Nat → Nat → Nat) (L L' : List (List Nat)) : zs_bfold W (L ++ L') = L'.foldl (zs_bstep W) (zs_bfold W L) := by
  unfold zs_bfold
  rw [List.foldl_append]
theorem zs_b0f (W : Nat → Nat → Nat) : ∀ (L : List (List Nat)) (b : Nat × Nat × List Nat), (b.2.1 = 0 → b.1 = 10000) → ((L.foldl (zs_bstep W) b).2.1 = 0 → (L.foldl (zs_bstep W) b).1 = 10000)
  | [], _, h => h
  | l :: L, b, h => by
    rw [List.foldl_cons]
    refine zs_b0f W L _ ?_
    unfold zs_bstep
    split
    · intro q; cases q
    · split
      · intro q; simp at q
      · exact h
theorem zs_b0 (W : Nat → Nat → Nat) (L : List (List Nat)) (h : (zs_bfold W L).2.1 = 0) : (zs_bfold W L).1 = 10000 := zs_b0f W L _ (fun _ => rfl) h
theorem zs_bFf (W : Nat → Nat → Nat) {F : Nat} : ∀ (L : List (List Nat)) (b : Nat × Nat × List Nat), (∀ l, l ∈ L → zs_of W l 12 ≤ F) → (b.2.1 ≠ 0 → b.1 ≤ F) → ((L.foldl (zs_bstep W) b).2.1 ≠ 0 → (L.foldl (zs_bstep W) b).1 ≤ F)
  | [], _, _, h => h
  | l :: L, b, hL, h => by
    rw [List.foldl_cons]
    have hl := hL l List.mem_cons_self
    refine zs_bFf W L _ (fun l' h' => hL l' (List.mem_cons_of_mem _ h')) ?_
    unfold zs_bstep
    split
    · exact fun _ => hl
    · rename_i c
      split
      · intro _; simp only; omega
      · intro _; omega
theorem zs_bF (W : Nat → Nat → Nat) {F : Nat} {L : List (List Nat)} (hL : ∀ l, l ∈ L → zs_of W l 12 ≤ F) (h : (zs_bfold W L).2.1 ≠ 0) : (zs_bfold W L).1 ≤ F := zs_bFf W L _ hL (fun q => absurd rfl q) h
theorem zs_bNf (W : Nat → Nat → Nat) : ∀ (L : List (List Nat)) (b : Nat × Nat × List Nat), (L.foldl (zs_bstep W) b).2.1 ≤ b.2.1 + 1 + L.length ∨ False
  | [], b => Or.inl (by simp)
  | l :: L, b => by
    rw [List.foldl_cons, List.length_cons]
    have ih := (zs_bNf W L (zs_bstep W b l)).resolve_right id
    left
    have : (zs_bstep W b l).2.1 ≤ b.2.1 + 1 := by
      unfold zs_bstep
      split
      · simp only; omega
      · split
        · exact Nat.le_refl _
        · omega
    omega
theorem zs_bN (W : Nat → Nat → Nat) (L : List (List Nat)) : (zs_bfold W L).2.1 ≤ 1 + L.length := by
  have := (zs_bNf W L (10000, 0, [])).resolve_right id
  unfold zs_bfold
  simp only at this
  omega
/-- rows that are no better change nothing -/
theorem zs_bskip {W : Nat → Nat → Nat} : ∀ (L : List (List Nat)) (b : Nat × Nat × List Nat), (∀ l, l ∈ L → b.1 < zs_of W l 12) → L.foldl (zs_bstep W) b = b
  | [], _, _ => rfl
  | l :: L, b, h => by
    have hl := h l List.mem_cons_self
    have e : zs_bstep W b l = b := by unfold zs_bstep; rw [if_neg (by omega), if_neg (by omega)]
    rw [List.foldl_cons, e]
    exact zs_bskip L b (fun l' h' => h l' (List.mem_cons_of_mem _ h'))
theorem zs_bskip1 {W : Nat → Nat → Nat} : ∀ (L : List (List Nat)) (b : Nat × Nat × List Nat), (∀ l, l ∈ L → b.1 ≤ zs_of W l 12) → (L.foldl (zs_bstep W) b).1 = b.1
  | [], _, _ => rfl
  | l :: L, b, h => by
    have hl := h l List.mem_cons_self
    have e : (zs_bstep W b l).1 = b.1 := by
      unfold zs_bstep; rw [if_neg (by omega)]
      split <;> rfl
    rw [List.foldl_cons, zs_bskip1 L _ (fun l' h' => by rw [e]; exact h l' (List.mem_cons_of_mem _ h')), e]
theorem zs_bminF {W : Nat → Nat → Nat} {F : Nat} : ∀ (L : List (List Nat)) (b : Nat × Nat × List Nat), (∀ l, l ∈ L → min F b.1 ≤ zs_of W l 12) → min F (L.foldl (zs_bstep W) b).1 = min F b.1
  | [], _, _ => rfl
  | l :: L, b, h => by
    have hl := h l List.mem_cons_self
    have e : min F (zs_bstep W b l).1 = min F b.1 := by
      unfold zs_bstep
      split
      · simp only; omega
      · split <;> rfl
    rw [List.foldl_cons, zs_bminF L _ (fun l' h' => by rw [e]; exact h l' (List.mem_cons_of_mem _ h')), e]
