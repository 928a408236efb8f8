/-! ===== bits ===== -/
theorem zy_bit : ∀ k, k < 31 → (1 : Int32) <<< (nI k &&& 31) = nI (2 ^ k) := by decide +kernel
theorem zy_lt {k : Nat} (h : k < 7) : 2 ^ k < 128 := Nat.pow_lt_pow_right (by decide) (n := 7) h
theorem zy_in {x k : Nat} (hx : x < 2 ^ 31) (hk : k < 31) : ((nI x >>> (nI k &&& 31)) &&& 1 = 1) ↔ x.testBit k = true := by
  rw [pk_shrN hx _ k (s_l k (by omega)), show (1 : Int32) = nI (2 ^ 1 - 1) from rfl, fa_mask, Nat.testBit_eq_decide_div_mod_eq, decide_eq_true_iff]
  have h2 : x / 2 ^ k % 2 ^ 1 < 2 := Nat.mod_lt _ (by decide)
  rw [nI_eq (by omega) (by decide)]
/-- the set of those below m that have f -/
def zb (f : Nat → Bool) : Nat → Nat
  | 0 => 0
  | m + 1 => zb f m ||| (if f m then 2 ^ m else 0)
theorem zb_lt (f : Nat → Bool) : ∀ m, zb f m < 2 ^ m
  | 0 => show 0 < 1 by decide
  | m + 1 => by
    have h := zb_lt f m
    have h2 : 2 ^ m < 2 ^ (m + 1) := Nat.pow_lt_pow_right (by decide) (by omega)
    refine Nat.or_lt_two_pow (by omega) ?_
    split
    · exact h2
    · exact Nat.two_pow_pos _
theorem zb_lt7 (f : Nat → Bool) {m : Nat} (h : m ≤ 7) : zb f m < 128 := Nat.lt_of_lt_of_le (zb_lt f m) (Nat.pow_le_pow_right (n := 2) (j := 7) (by decide) h)
theorem zb_bit (f : Nat → Bool) (i : Nat) : ∀ m, (zb f m).testBit i = (decide (i < m) && f i)
  | 0 => by simp [zb]
  | m + 1 => by
    rw [zb, Nat.testBit_or, zb_bit f i m]
    by_cases h : i = m
    · subst h
      cases hf : f i <;> simp [hf]
    · have e : (if f m = true then 2 ^ m else 0).testBit i = false := by
        split
        · rw [Nat.testBit_two_pow]; simp; omega
        · simp
      rw [e, Bool.or_false]
      congr 1
      exact decide_eq_decide.mpr (by omega)
theorem zb_cong {f g : Nat → Bool} : ∀ {m : Nat}, (∀ i, i < m → f i = g i) → zb f m = zb g m
  | 0, _ => rfl
  | m + 1, h => by rw [zb, zb, zb_cong (fun i hi => h i (by omega)), h m (by omega)]
/-- how many bits -/
def zpc (x : Nat) : Nat := fb_ct (fun i => x.testBit i) 14
theorem zpc_le (x : Nat) : zpc x ≤ 14 := fb_ct_le _ _
theorem zpc_k : ∀ x, x < 128 → x ≠ 0 → zpc (x &&& (x - 1)) + 1 = zpc x ∧ x &&& (x - 1) < x := by decide +kernel
theorem zy_not0 : ∀ x, x < 128 → ∀ s, s < 128 → nI x &&& (nI s ^^^ (-1)) = nI (x &&& (127 ^^^ s)) := by decide +kernel
theorem zy_not {x s : Nat} (hx : x < 128) (hs : s < 128) : nI x &&& (nI s ^^^ (-1)) = nI (x &&& (127 ^^^ s)) := zy_not0 x hx s hs
theorem zy_and_lt {x y : Nat} (hx : x < 128) : x &&& y < 128 := Nat.lt_of_le_of_lt Nat.and_le_left hx
theorem zy_or_lt {x y : Nat} (hx : x < 128) (hy : y < 128) : x ||| y < 128 := Nat.or_lt_two_pow (n := 7) hx hy
theorem zy_xor_lt {x y : Nat} (hx : x < 128) (hy : y < 128) : x ^^^ y < 128 := Nat.xor_lt_two_pow (n := 7) hx hy
