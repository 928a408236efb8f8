/-! ===== the text: what leads where ===== -/
def zr_cl (tn : Nat → Nat) (D : Nat → Prop) : Prop := ∀ u v, u < 7 → v < 7 → D u → (tn u).testBit v = true → D v
def zr_K (R : Nat → Nat) (x : Nat) : Nat → Prop := fun v => v = x ∨ (R x).testBit v = true
def zr_I (tn R : Nat → Nat) : Prop := ∀ x, x < 7 → zr_cl tn (zr_K R x) ∧ ∀ D, zr_cl tn D → D x → ∀ v, v < 7 → zr_K R x v → D v
def zr_up (R : Nat → Nat) (x y q : Nat) : Nat := if q = y ∨ (R q).testBit y = true then R q ||| (R x ||| 2 ^ x) else R q
theorem zr_I0 : zr_I (fun _ => 0) (fun _ => 0) := by
  intro x hx
  refine ⟨fun u v _ _ _ h => by simp at h, fun D _ hx v _ hv => ?_⟩
  rcases hv with e | e
  · rw [e]; exact hx
  · simp at e
theorem zr_up_K (R : Nat → Nat) (x y q v : Nat) : zr_K (zr_up R x y) q v ↔ (zr_K R q v ∨ (zr_K R q y ∧ zr_K R x v)) := by
  unfold zr_K zr_up
  by_cases c : q = y ∨ (R q).testBit y = true
  · have c2 : y = q ∨ (R q).testBit y = true := by rcases c with e | e; exact Or.inl e.symm; exact Or.inr e
    rw [if_pos c, Nat.testBit_or, Nat.testBit_or, Nat.testBit_two_pow, Bool.or_eq_true, Bool.or_eq_true, decide_eq_true_iff]
    constructor
    · rintro (h | h | h | h)
      · exact Or.inl (Or.inl h)
      · exact Or.inl (Or.inr h)
      · exact Or.inr ⟨c2, Or.inr h⟩
      · exact Or.inr ⟨c2, Or.inl h.symm⟩
    · rintro ((h | h) | ⟨-, h | h⟩)
      · exact Or.inl h
      · exact Or.inr (Or.inl h)
      · exact Or.inr (Or.inr (Or.inr h.symm))
      · exact Or.inr (Or.inr (Or.inl h))
  · have c2 : ¬ (y = q ∨ (R q).testBit y = true) := by
      rintro (e | e)
      · exact c (Or.inl e.symm)
      · exact c (Or.inr e)
    rw [if_neg c]
    constructor
    · exact Or.inl
    · rintro (h | ⟨h, -⟩)
      · exact h
      · exact absurd h c2
theorem zs_tnu_bit (tn : Nat → Nat) (x y u v : Nat) : (zs_tnu tn x y u).testBit v = true ↔ ((tn u).testBit v = true ∨ (u = y ∧ v = x)) := by
  unfold zs_tnu
  by_cases c : u = y
  · rw [if_pos c, Nat.testBit_or, Nat.testBit_two_pow, Bool.or_eq_true, decide_eq_true_iff, c]
    constructor
    · rintro (h | h)
      · exact Or.inl h
      · exact Or.inr ⟨rfl, h.symm⟩
    · rintro (h | ⟨-, h⟩)
      · exact Or.inl h
      · exact Or.inr h.symm
  · rw [if_neg c]
    constructor
    · exact Or.inl
    · rintro (h | ⟨h, -⟩)
      · exact h
      · exact absurd h c
theorem zr_I_up {tn R : Nat → Nat} (h : zr_I tn R) {x y : Nat} (hx : x < 7) (hy : y < 7) : zr_I (zs_tnu tn x y) (zr_up R x y) := by
  intro q hq
  have hq1 := h q hq
  have hx1 := h x hx
  refine ⟨fun u v hu hv hK hE => ?_, fun D hD hDq v hv hK => ?_⟩
  · rw [zr_up_K] at hK ⊢
    rw [zs_tnu_bit] at hE
    rcases hE with hE | ⟨e1, e2⟩
    · rcases hK with hK | ⟨h1, h2⟩
      · exact Or.inl (hq1.1 u v hu hv hK hE)
      · exact Or.inr ⟨h1, hx1.1 u v hu hv h2 hE⟩
    · subst e1
      subst e2
      rcases hK with hK | ⟨h1, -⟩
      · exact Or.inr ⟨hK, Or.inl rfl⟩
      · exact Or.inr ⟨h1, Or.inl rfl⟩
  · have hD2 : zr_cl tn D := fun u v hu hv h1 h2 => hD u v hu hv h1 ((zs_tnu_bit tn x y u v).mpr (Or.inl h2))
    rw [zr_up_K] at hK
    rcases hK with hK | ⟨h1, h2⟩
    · exact hq1.2 D hD2 hDq v hv hK
    · have hDy := hq1.2 D hD2 hDq y hy h1
      exact hx1.2 D hD2 (hD y x hy hx hDy ((zs_tnu_bit tn x y y x).mpr (Or.inr ⟨rfl, rfl⟩))) v hv h2
/-! the closure that the model walks -/
theorem zs_ahq_sub {tn : Nat → Nat} {s i : Nat} (h : s.testBit i = true) : ∀ k, (zs_ahq tn k s).testBit i = true
  | 0 => h
  | k + 1 => by rw [zs_ahq, Nat.testBit_or, zs_ahq_sub h k, Bool.true_or]
theorem zs_ahq_mono {tn : Nat → Nat} {s i k : Nat} (h : (zs_ahq tn k s).testBit i = true) : ∀ m, (zs_ahq tn (k + m) s).testBit i = true
  | 0 => h
  | m + 1 => by rw [← Nat.add_assoc, zs_ahq, Nat.testBit_or, zs_ahq_mono h m, Bool.true_or]
theorem zs_ahq_cl {tn : Nat → Nat} {s : Nat} (h : zs_ahq tn 7 s = s) : zr_cl tn (fun v => s.testBit v = true) := by
  intro u v hu hv hs ht
  have h1 : (zs_ahq tn (u + 1) s).testBit v = true := by
    rw [zs_ahq, Nat.testBit_or, zs_ahq_sub hs u]
    simp [ht]
  have h2 := zs_ahq_mono h1 (6 - u)
  rw [show u + 1 + (6 - u) = 7 by omega, h] at h2
  exact h2
theorem zs_ahq_in {tn : Nat → Nat} {D : Nat → Prop} (hD : zr_cl tn D) {s : Nat} (hs : ∀ v, v < 7 → s.testBit v = true → D v) : ∀ k, k ≤ 7 → ∀ v, v < 7 → (zs_ahq tn k s).testBit v = true → D v
  | 0, _, v, hv, h => hs v hv h
  | k + 1, hk, v, hv, h => by
    rw [zs_ahq, Nat.testBit_or, Bool.or_eq_true] at h
    rcases h with h | h
    · exact zs_ahq_in hD hs k (by omega) v hv h
    · by_cases c : (zs_ahq tn k s).testBit k = true
      · rw [if_pos c] at h
        exact hD k v (by omega) hv (zs_ahq_in hD hs k (by omega) k (by omega) c) h
      · rw [if_neg c] at h
        simp at h
theorem zs_ahr_in {tn : Nat → Nat} {D : Nat → Prop} (hD : zr_cl tn D) {s : Nat} (hs : ∀ v, v < 7 → s.testBit v = true → D v) : ∀ r v, v < 7 → (zs_ahr tn r s).testBit v = true → D v
  | 0, v, hv, h => hs v hv h
  | r + 1, v, hv, h => zs_ahq_in hD (zs_ahr_in hD hs r) 7 (Nat.le_refl _) v hv h
theorem fb_ct_strict {f g : Nat → Bool} : ∀ {n : Nat}, (∀ k, k < n → f k = true → g k = true) → fb_ct f n ≤ fb_ct g n ∧ (∀ i, i < n → f i = false → g i = true → fb_ct f n < fb_ct g n)
  | 0, _ => ⟨Nat.le_refl _, fun i hi => absurd hi (Nat.not_lt_zero i)⟩
  | n + 1, h => by
    obtain ⟨h1, h2⟩ := fb_ct_strict (f := f) (g := g) (n := n) (fun k hk => h k (by omega))
    have hn := h n (by omega)
    rw [fb_ct_succ, fb_ct_succ]
    refine ⟨?_, fun i hi hf hg => ?_⟩
    · cases hf : f n <;> cases hg : g n <;> simp <;> first | omega | (rw [hf, hg] at hn; simp at hn)
    · by_cases c : i = n
      · subst c; rw [hf, hg]; simp; omega
      · have := h2 i (by omega) hf hg
        cases hf2 : f n <;> cases hg2 : g n <;> simp <;> first | omega | (rw [hf2, hg2] at hn; simp at hn)
theorem zpc_sub {x y : Nat} (hx : x < 128) (hy : y < 128) (h : ∀ i, x.testBit i = true → y.testBit i = true) (hne : y ≠ x) : zpc x < zpc y := by
  have key : ∃ i, x.testBit i ≠ y.testBit i := Classical.byContradiction (fun hc => hne (Nat.eq_of_testBit_eq (fun i => Decidable.byContradiction (fun q => hc ⟨i, fun z => q z.symm⟩))))
  obtain ⟨i, hi⟩ := key
  have hf : x.testBit i = false := by
    cases e : x.testBit i
    · rfl
    · rw [e, h i e] at hi; exact absurd rfl hi
  have hg : y.testBit i = true := by
    cases e : y.testBit i
    · rw [e, hf] at hi; exact absurd rfl hi
    · rfl
  have hi7 : i < 7 := by
    apply Decidable.byContradiction
    intro q
    rw [Nat.testBit_lt_two_pow (Nat.lt_of_lt_of_le hy (Nat.pow_le_pow_right (n := 2) (i := 7) (by decide) (by omega)))] at hg
    cases hg
  exact (fb_ct_strict (n := 14) (fun k _ => h k)).2 i (by omega) hf hg
theorem zpc_le7 : ∀ x, x < 128 → zpc x ≤ 7 := by decide +kernel
theorem zs_ahr_stop {tn : Nat → Nat} (ht : ∀ q, q < 7 → tn q < 128) {s : Nat} (hs : s < 128) (hs0 : s ≠ 0) : ∀ r, zs_ahq tn 7 (zs_ahr tn r s) = zs_ahr tn r s ∨ r + 1 ≤ zpc (zs_ahr tn r s)
  | 0 => by
    right
    have := zpc_0 s hs
    show 1 ≤ zpc s
    omega
  | r + 1 => by
    have hl := zs_ahr_lt ht hs r
    have hl2 := zs_ahr_lt ht hs (r + 1)
    by_cases c : zs_ahq tn 7 (zs_ahr tn r s) = zs_ahr tn r s
    · left
      show zs_ahq tn 7 (zs_ahq tn 7 (zs_ahr tn r s)) = zs_ahq tn 7 (zs_ahr tn r s)
      rw [c, c]
    · right
      have h1 := (zs_ahr_stop ht hs hs0 r).resolve_left c
      have h2 := zpc_sub hl hl2 (fun i hi => zs_ahq_sub hi 7) c
      show r + 1 + 1 ≤ zpc (zs_ahr tn (r + 1) s)
      omega
theorem zs_ahr_cl {tn : Nat → Nat} (ht : ∀ q, q < 7 → tn q < 128) {s : Nat} (hs : s < 128) (hs0 : s ≠ 0) : zr_cl tn (fun v => (zs_ahr tn 7 s).testBit v = true) := by
  rcases zs_ahr_stop ht hs hs0 7 with h | h
  · exact zs_ahq_cl h
  · have := zpc_le7 _ (zs_ahr_lt ht hs 7)
    omega
theorem zs_ahr_sub {tn : Nat → Nat} {s i : Nat} (h : s.testBit i = true) : ∀ r, (zs_ahr tn r s).testBit i = true
  | 0 => h
  | r + 1 => zs_ahq_sub (zs_ahr_sub h r) 7
theorem zr_ah {tn R : Nat → Nat} (h : zr_I tn R) (ht : ∀ q, q < 7 → tn q < 128) {x y : Nat} (hx : x < 7) (hy : y < 7) : (zs_ahr tn 7 (2 ^ x)).testBit y = true ↔ zr_K R x y := by
  have h2 := zy_lt hx
  constructor
  · intro q
    refine zs_ahr_in (h x hx).1 (s := 2 ^ x) (fun v _ hv => ?_) 7 y hy q
    rw [Nat.testBit_two_pow, decide_eq_true_iff] at hv
    exact Or.inl hv.symm
  · exact (h x hx).2 _ (zs_ahr_cl ht h2 (by have := Nat.two_pow_pos x; omega)) (zs_ahr_sub (by rw [Nat.testBit_two_pow_self]) 7) y hy
