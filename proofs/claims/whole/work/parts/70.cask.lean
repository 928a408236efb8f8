/-! ===== one bit alone, among fourteen ===== -/
def zok (o : Nat) : Bool := (List.range 2048).all (fun x => decide (zpc (o + x) ≤ 1 ↔ (o + x) &&& (o + x - 1) = 0))
theorem zok_0 : zok 0 = true := by decide +kernel
theorem zok_1 : zok 2048 = true := by decide +kernel
theorem zok_2 : zok 4096 = true := by decide +kernel
theorem zok_3 : zok 6144 = true := by decide +kernel
theorem zok_4 : zok 8192 = true := by decide +kernel
theorem zok_5 : zok 10240 = true := by decide +kernel
theorem zok_6 : zok 12288 = true := by decide +kernel
theorem zok_7 : zok 14336 = true := by decide +kernel
theorem zok_of {o x : Nat} (h : zok o = true) (h1 : o ≤ x) (h2 : x < o + 2048) : zpc x ≤ 1 ↔ x &&& (x - 1) = 0 := by
  have := (List.all_eq_true.mp h) (x - o) (List.mem_range.mpr (by omega))
  rw [show o + (x - o) = x by omega] at this
  exact of_decide_eq_true this
theorem zpc_one {x : Nat} (h : x < 16384) : zpc x ≤ 1 ↔ x &&& (x - 1) = 0 := by
  rcases (show x < 2048 ∨ (2048 ≤ x ∧ x < 4096) ∨ (4096 ≤ x ∧ x < 6144) ∨ (6144 ≤ x ∧ x < 8192) ∨ (8192 ≤ x ∧ x < 10240) ∨ (10240 ≤ x ∧ x < 12288) ∨ (12288 ≤ x ∧ x < 14336) ∨ (14336 ≤ x ∧ x < 16384) by omega) with q | q | q | q | q | q | q | q
  · exact zok_of zok_0 (by omega) (by omega)
  · exact zok_of zok_1 (by omega) (by omega)
  · exact zok_of zok_2 (by omega) (by omega)
  · exact zok_of zok_3 (by omega) (by omega)
  · exact zok_of zok_4 (by omega) (by omega)
  · exact zok_of zok_5 (by omega) (by omega)
  · exact zok_of zok_6 (by omega) (by omega)
  · exact zok_of zok_7 (by omega) (by omega)
