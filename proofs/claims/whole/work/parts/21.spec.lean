/-! ===== the state that the document speaks of: a.1 0: n, AS OF, SLACK, WHICH; a.1 1 0: TELLINGS; a.1 2 .. 5: who, what, says, time; a.1 6 0, a.1 7: the text; a.1 8: forms and one more (0: lost), a.1 9: sizes; a.1 10 0: the latest finding; a.2: items ===== -/
abbrev zs_A : Type := (Nat → Nat → Nat) × (Nat → Nat → Int32)
def zs_u (f : Nat → Nat → Nat) (c i v : Nat) : Nat → Nat → Nat := fun c' i' => if c' = c ∧ i' = i then v else f c' i'
theorem zs_u_same (f : Nat → Nat → Nat) (c i v : Nat) : zs_u f c i v c i = v := if_pos ⟨rfl, rfl⟩
theorem zs_u_c {f : Nat → Nat → Nat} {c i v c' i' : Nat} (h : c' ≠ c) : zs_u f c i v c' i' = f c' i' := if_neg (fun q => h q.1)
theorem zs_u_i {f : Nat → Nat → Nat} {c i v c' i' : Nat} (h : i' ≠ i) : zs_u f c i v c' i' = f c' i' := if_neg (fun q => h q.2)
def zs_ok (a : zs_A) : Prop :=
  (2 ≤ a.1 0 0 ∧ a.1 0 0 ≤ 7 ∧ a.1 0 1 ≤ 999 ∧ a.1 0 2 ≤ 9 ∧ a.1 0 3 ≤ 1) ∧
  (a.1 1 0 ≤ 160 ∧ (∀ k, k < a.1 1 0 → a.1 2 k < 12 ∧ a.1 3 k < 7 ∧ a.1 4 k < 3 ∧ a.1 5 k ≤ 999) ∧ ∀ k, k + 1 < a.1 1 0 → a.1 5 k ≤ a.1 5 (k + 1)) ∧
  (a.1 6 0 ≤ 60 ∧ ∀ k, k < a.1 6 0 → a.1 7 k < 256) ∧ (∀ s, s < 4 → a.1 8 s ≤ 3 ∧ a.1 9 s ≤ 60) ∧ a.1 10 0 ≤ 5
/-- it is so in the model's places -/
def zd_1 (a : zs_A) (v : zm_S) : Prop := ∀ i, i < 4 → v.1 5 i = nI (a.1 0 i)
def zd_2 (a : zs_A) (v : zm_S) : Prop := v.1 0 6 = nI (a.1 1 0) ∧ ∀ k, k < a.1 1 0 → v.1 6 k = nI (a.1 2 k) ∧ v.1 7 k = nI (a.1 3 k) ∧ v.1 8 k = nI (a.1 4 k) ∧ v.1 9 k = nI (a.1 5 k)
def zd_3 (a : zs_A) (v : zm_S) : Prop := v.1 0 13 = nI (a.1 6 0) ∧ ∀ k, k < a.1 6 0 → v.1 11 k = nI (a.1 7 k)
def zd_4 (a : zs_A) (v : zm_S) : Prop := ∀ s, s < 4 → v.1 1 s = nI (a.1 8 s) - 1 ∧ v.1 2 s = nI (a.1 9 s) ∧ (a.1 8 s ≠ 0 → ∀ i, i < a.1 9 s → v.1 3 (60 * s + i) = a.2 s i)
def zd_5 (a : zs_A) (v : zm_S) : Prop := v.1 0 4 = nI (a.1 10 0)
def zd_P (a : zs_A) (v : zm_S) : Prop := zs_ok a ∧ zd_1 a v ∧ zd_2 a v ∧ zd_3 a v ∧ zd_4 a v ∧ zd_5 a v
theorem zd_P.of {a : zs_A} {u v : zm_S} (h : zd_P a v) (e : ∀ k, k = 1 ∨ k = 2 ∨ k = 3 ∨ k = 5 ∨ k = 6 ∨ k = 7 ∨ k = 8 ∨ k = 9 ∨ k = 11 → u.1 k = v.1 k) (e0 : ∀ j, j = 4 ∨ j = 6 ∨ j = 13 → u.1 0 j = v.1 0 j) : zd_P a u := by
  obtain ⟨h0, h1, h2, h3, h4, h5⟩ := h
  have e1 := e 1 (by omega)
  have e2 := e 2 (by omega)
  have e3 := e 3 (by omega)
  have e5 := e 5 (by omega)
  have e6 := e 6 (by omega)
  have e7 := e 7 (by omega)
  have e8 := e 8 (by omega)
  have e9 := e 9 (by omega)
  have e11 := e 11 (by omega)
  refine ⟨h0, ?_, ?_, ?_, ?_, ?_⟩
  · unfold zd_1; rw [e5]; exact h1
  · unfold zd_2; rw [e6, e7, e8, e9, e0 6 (by omega)]; exact h2
  · unfold zd_3; rw [e11, e0 13 (by omega)]; exact h3
  · unfold zd_4; rw [e1, e2, e3]; exact h4
  · unfold zd_5; rw [e0 4 (by omega)]; exact h5
theorem zd_P.pa {a : zs_A} {v : zm_S} (h : zd_P a v) {k : Nat} (hk : k = 4 ∨ k = 10 ∨ 12 ≤ k) (f : Nat → Int32) : zd_P a (zm_pa v k f) :=
  h.of (fun j hj => if_neg (by omega)) (fun j _ => by rw [zm_pa_fst, if_neg (by omega)])
theorem zd_P.pf {a : zs_A} {v : zm_S} (h : zd_P a v) {j : Nat} (hj : j ≠ 4 ∧ j ≠ 6 ∧ j ≠ 13) (x : Int32) : zd_P a (zm_pi v 0 j x) :=
  h.of (fun k hk => if_neg (by omega)) (fun i hi => by rw [zm_pa_fst, if_pos rfl, upd, if_neg (by omega)])
/-! ===== small numbers ===== -/
theorem zx_in {a : Int32} {n : Nat} (hn : n < 2 ^ 31) : vp_in a n ↔ 0 ≤ a ∧ a < nI n := by
  rw [vp_in_iff, fa_le, fa_lt, nI_toInt hn]
  exact Iff.rfl
theorem zx_of {a : Int32} {n : Nat} (h : 0 ≤ a ∧ a < nI n) (hn : n < 2 ^ 31) : ∃ j : Nat, j < n ∧ a = nI j := vp_in_of ((zx_in hn).mpr h) hn
theorem zx_ofle {a : Int32} {n : Nat} (h : 0 ≤ a ∧ a ≤ nI n) (hn : n + 1 < 2 ^ 31) : ∃ j : Nat, j ≤ n ∧ a = nI j := by
  obtain ⟨j, h1, h2⟩ := zx_of (a := a) (n := n + 1) ⟨h.1, by have := h.2; rw [fa_le, nI_toInt (by omega)] at this; rw [fa_lt, nI_toInt hn]; omega⟩ hn
  exact ⟨j, by omega, h2⟩
theorem zx_64 (a : Int32) (lo hi : Int32) : (lo.toInt64 ≤ a.toInt64 ∧ a.toInt64 ≤ hi.toInt64) ↔ (lo ≤ a ∧ a ≤ hi) := by rw [fa_wide_le, fa_wide_le]
theorem zx_form : ∀ f, f < 4 → (0 ≤ nI f - 1 ↔ f ≠ 0) := by decide
theorem zx_form1 (f : Nat) : nI (f + 1) - 1 = nI f := nI_pred f
theorem zx_idx {s i : Nat} (hs : s < 4) (hi : i < 60) : (60 : Int32) * nI s + nI i = nI (60 * s + i) := by
  rw [show (60 : Int32) = nI 60 from rfl, pk_mul, nI_add]
theorem zx_clamp {n : Nat} (h : n < 2147483648) : (nI n).toNatClampNeg = n := nI_clamp h
/-! ===== what the calls on sheets answer, and what is so behind them ===== -/
def zs_late (a : zs_A) (k : Nat) : zs_A := (zs_u a.1 10 0 k, a.2)
def zs_met (a : zs_A) (k : Nat) : Int32 × zs_A := (-10 - nI k, zs_late a k)
def zs_sheet (a : zs_A) (s f n : Int32) : Int32 × zs_A :=
  if (0 ≤ s ∧ s < 4) ∧ (0 ≤ f ∧ f < 3) ∧ n ≤ 60 then
    if n < 0 then zs_met a 5
    else (n, (zs_u (zs_u a.1 8 s.toNatClampNeg (f.toNatClampNeg + 1)) 9 s.toNatClampNeg n.toNatClampNeg, fun s' i => if s' = s.toNatClampNeg then 0 else a.2 s' i))
  else (-2, a)
def zs_lose (a : zs_A) (s : Int32) : Int32 × zs_A :=
  if 0 ≤ s ∧ s < 4 then
    if a.1 8 s.toNatClampNeg = 0 then zs_met a 1
    else (nI (a.1 9 s.toNatClampNeg), (zs_u a.1 8 s.toNatClampNeg 0, a.2))
  else (-2, a)
/-- the finding at an item, 0: none -/
def zs_lack (a : zs_A) (s f i : Int32) : Nat :=
  if a.1 8 s.toNatClampNeg = 0 then 1
  else if nI (a.1 8 s.toNatClampNeg) - 1 ≠ f then 3
  else if 0 ≤ i ∧ i < nI (a.1 9 s.toNatClampNeg) then 0 else 2
def zs_cut (f v : Int32) : Int32 := if f = 0 then v.toInt8.toInt32 else if f = 1 then v.toInt16.toInt32 else v
def zs_put (g : Nat → Nat → Int32) (s i : Nat) (v : Int32) : Nat → Nat → Int32 := fun s' i' => if s' = s ∧ i' = i then v else g s' i'
def zs_lay (a : zs_A) (s f i v : Int32) : Int32 × zs_A :=
  if (0 ≤ s ∧ s < 4) ∧ 0 ≤ f ∧ f < 3 then
    if zs_lack a s f i = 0 then (1, (a.1, zs_put a.2 s.toNatClampNeg i.toNatClampNeg (zs_cut f v)))
    else zs_met a (zs_lack a s f i)
  else (-2, a)
def zs_get (a : zs_A) (s f i : Int32) : Int32 × zs_A :=
  if (0 ≤ s ∧ s < 4) ∧ 0 ≤ f ∧ f < 3 then
    if zs_lack a s f i = 0 then (a.2 s.toNatClampNeg i.toNatClampNeg, a)
    else (-2147483648, zs_late a (zs_lack a s f i))
  else (-2147483648, a)
