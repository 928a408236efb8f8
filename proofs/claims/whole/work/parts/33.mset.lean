/-! ===== set, answer, read, type, wipe ===== -/
def zs_lo (k : Nat) : Nat := if k = 0 then 2 else 0
def zs_hi (k : Nat) : Nat := if k = 0 then 7 else if k = 1 then 999 else if k = 2 then 9 else 1
def zs_set (a : zs_A) (k x : Int32) : Int32 × zs_A :=
  if (0 ≤ k ∧ k < 4) ∧ nI (zs_lo k.toNatClampNeg) ≤ x ∧ x ≤ nI (zs_hi k.toNatClampNeg) then (nI (a.1 0 k.toNatClampNeg), (zs_u a.1 0 k.toNatClampNeg x.toNatClampNeg, a.2)) else (-2, a)
def zs_lt (a : zs_A) : Nat := if a.1 1 0 = 0 then 0 else a.1 5 (a.1 1 0 - 1)
def zs_tell (a : zs_A) (p q x tm : Nat) : zs_A := (zs_u (zs_u (zs_u (zs_u (zs_u a.1 2 (a.1 1 0) p) 3 (a.1 1 0) q) 4 (a.1 1 0) x) 5 (a.1 1 0) tm) 1 0 (a.1 1 0 + 1), a.2)
def zs_answer (a : zs_A) (p q x tm : Int32) : Int32 × zs_A :=
  if (0 ≤ p ∧ p < 12) ∧ (0 ≤ q ∧ q < 7) ∧ (0 ≤ x ∧ x < 3) ∧ nI (zs_lt a) ≤ tm ∧ tm ≤ 999 then
    if a.1 1 0 = 160 then (-4, a) else (nI (a.1 1 0 + 1), zs_tell a p.toNatClampNeg q.toNatClampNeg x.toNatClampNeg tm.toNatClampNeg)
  else (-2, a)
def zs_rdl (s : Nat) (p tm : Int32) : Nat → Nat → zs_A → Int32 × zs_A
  | 0, k, a => (nI k, a)
  | m + 1, k, a => if k < a.1 9 s then (if (zs_answer a p (nI k) (a.2 s k) tm).1 < 0 then (nI k, a) else zs_rdl s p tm m (k + 1) (zs_answer a p (nI k) (a.2 s k) tm).2) else (nI k, a)
def zs_read (a : zs_A) (s p tm : Int32) : Int32 × zs_A :=
  if (0 ≤ s ∧ s < 4) ∧ (0 ≤ p ∧ p < 12) ∧ nI (zs_lt a) ≤ tm ∧ tm ≤ 999 then
    if a.1 8 s.toNatClampNeg = 0 then zs_met a 1 else zs_rdl s.toNatClampNeg p tm 61 0 a
  else (-2, a)
def zs_type (a : zs_A) (b : Int32) : Int32 × zs_A :=
  if 0 ≤ b ∧ b < 256 then
    if a.1 6 0 = 60 then (-4, a) else (nI (a.1 6 0 + 1), (zs_u (zs_u a.1 7 (a.1 6 0) b.toNatClampNeg) 6 0 (a.1 6 0 + 1), a.2))
  else (-2, a)
def zs_wipe (a : zs_A) : Int32 × zs_A := (nI (a.1 6 0), (zs_u a.1 6 0 0, a.2))
theorem k_high {d : Nat} {w : zm_S} {k : Nat} (hk : k < 4) : zm_C zd_H d mX8_high [.int (nI k)] w (zq (.int (nI (zs_hi k))) w) := by
  refine zm_C.of mtX8_high.1.2.2.2.2.2.2 rfl (Nat.le_of_ble_eq_true rfl) ?_
  have e0 : nI k = 0 ↔ k = 0 := nI_eq (b := 0) (by omega) (by decide)
  have e1 : nI k = 1 ↔ k = 1 := nI_eq (b := 1) (by omega) (by decide)
  have e2 : nI k = 2 ↔ k = 2 := nI_eq (b := 2) (by omega) (by decide)
  refine gX8_high_0 (fun h => ?_) (fun h => ?_)
  · rw [e0] at h
    refine gX8_high_9 (fun h9 => ?_) (fun h9 => ?_)
    · rw [e1] at h9
      refine gX8_high_20 (fun h20 => ?_) (fun h20 => ?_)
      · rw [e2] at h20
        refine gX8_high_30 ?_
        rw [zs_hi, if_neg h, if_neg h9, if_neg h20]
        exact zq_m _ _
      · rw [e2] at h20
        refine gX8_high_25 ?_
        rw [zs_hi, if_neg h, if_neg h9, if_pos h20]
        exact zq_m _ _
    · rw [e1] at h9
      refine gX8_high_14 ?_
      rw [zs_hi, if_neg h, if_pos h9]
      exact zq_m _ _
  · rw [e0] at h
    refine gX8_high_4 ?_
    rw [zs_hi, if_pos h]
    exact zq_m _ _
theorem zs_set_ok {a : zs_A} (h : zs_ok a) {k x : Nat} (hk : k < 4) (h1 : zs_lo k ≤ x) (h2 : x ≤ zs_hi k) : zs_ok (zs_u a.1 0 k x, a.2) := by
  obtain ⟨g1, g2, g3, g4, g5⟩ := h
  refine ⟨?_, g2, g3, g4, g5⟩
  unfold zs_lo at h1
  unfold zs_hi at h2
  show 2 ≤ zs_u a.1 0 k x 0 0 ∧ zs_u a.1 0 k x 0 0 ≤ 7 ∧ zs_u a.1 0 k x 0 1 ≤ 999 ∧ zs_u a.1 0 k x 0 2 ≤ 9 ∧ zs_u a.1 0 k x 0 3 ≤ 1
  unfold zs_u
  rcases (show k = 0 ∨ k = 1 ∨ k = 2 ∨ k = 3 by omega) with rfl | rfl | rfl | rfl <;> simp at h1 h2 ⊢ <;> omega
theorem m_set {d : Nat} {a : zs_A} {v : zm_S} (h : zd_P a v) (k x : Int32) : zm_C zd_H (d + 1) mX8_set [.ref 0, .int k, .int x] v (zp (.int (zs_set a k x).1) (zd_P (zs_set a k x).2)) := by
  refine zm_C.of mtX8_set.1.2.2.2.2.2.2 rfl (Nat.le_of_ble_eq_true rfl) ?_
  have bad : ∀ (hb : ¬ ((0 ≤ k ∧ k < 4) ∧ nI (zs_lo k.toNatClampNeg) ≤ x ∧ x ≤ nI (zs_hi k.toNatClampNeg))), zm_T zd_H (d + 1) mX8_set (zp (.int (zs_set a k x).1) (zd_P (zs_set a k x).2)) 36 [] [] v := fun hb => by
    refine gX8_set_36 ?_
    rw [zs_set, if_neg hb]
    exact ⟨rfl, h⟩
  refine gX8_set_0 (k_inI k 0 3 rfl rfl) (zq_i ?_)
  refine gX8_set_9 (fun h9 => bad (fun q => zi_0.mp h9 ⟨q.1.1, (zx_le3 k).mpr q.1.2⟩)) (fun h9 => ?_)
  have hk0 : 0 ≤ k ∧ k < 4 := by have := zi_n0.mp h9; rwa [zx_le3] at this
  obtain ⟨j, hj, rfl⟩ := zx_of (n := 4) hk0 (by decide)
  have hc : (nI j).toNatClampNeg = j := zx_clamp (by omega)
  rw [hc] at bad
  have go : zm_T zd_H (d + 1) mX8_set (zp (.int (zs_set a (nI j) x).1) (zd_P (zs_set a (nI j) x).2)) 25 [(0, .ref 0), (1, .int (nI j)), (2, .int x)] [.long (nI (zs_lo j)).toInt64, .long x.toInt64] v := by
    refine gX8_set_25 (k_high hj) (zq_i ?_)
    refine gX8_set_29 (k_inI x (nI (zs_lo j)) (nI (zs_hi j)) rfl rfl) (zq_i ?_)
    refine gX8_set_33 (fun h33 => ?_) (fun h33 => bad (fun q => zi_0.mp h33 q.2))
    have hx := zi_n0.mp h33
    have hhi : zs_hi j ≤ 999 := by unfold zs_hi; split <;> (try split) <;> (try split) <;> omega
    obtain ⟨y, hy, rfl⟩ := zx_ofle (n := zs_hi j) (a := x) ⟨Int32.le_trans (nI_pos' (by unfold zs_lo; split <;> omega)) hx.1, hx.2⟩ (by omega)
    have hcy : (nI y).toNatClampNeg = y := zx_clamp (by omega)
    have hlo : zs_lo j ≤ y := (nI_leI (by unfold zs_lo; split <;> omega) (by omega)).mp hx.1
    refine gX8_set_39 (vp_in_nI hj (by decide)) (vp_in_nI hj (by decide)) ?_
    rw [zs_set, hc, if_pos ⟨hk0, hx⟩, hcy]
    refine ⟨by rw [h.2.1 j hj], zs_set_ok h.1 hj hlo hy, fun i hi => ?_, h.2.2.1, h.2.2.2.1, h.2.2.2.2.1, h.2.2.2.2.2⟩
    show (zm_pi v 5 j (nI y)).1 5 i = nI (zs_u a.1 0 j y 0 i)
    rw [zm_pa_at]
    by_cases e : i = j
    · rw [e, pk_us, zs_u_same]
    · rw [pk_un e, zs_u_i e]
      exact h.2.1 i hi
  refine gX8_set_12 (fun h12 => ?_) (fun h12 => ?_)
  · refine gX8_set_24 ?_
    rw [zs_lo, if_neg (fun q => h12 (by rw [q]; rfl))] at go
    exact go
  · refine gX8_set_18 ?_
    rw [zs_lo, if_pos ((nI_eq (b := 0) (by omega) (by decide)).mp h12)] at go
    exact go
theorem k_isLate {d : Nat} {a : zs_A} {v : zm_S} (h : zd_P a v) (tm : Int32) : zm_C zd_H (d + 1) mX8_isLate [.ref 0, .int tm] v (zq (.int (zi (nI (zs_lt a) ≤ tm ∧ tm ≤ 999))) v) := by
  refine zm_C.of mtX8_isLate.1.2.2.2.2.2.2 rfl (Nat.le_of_ble_eq_true rfl) ?_
  obtain ⟨e1, e2⟩ := h.2.2.1
  have ht := h.1.2.1.1
  have go : zm_T zd_H (d + 1) mX8_isLate (zq (.int (zi (nI (zs_lt a) ≤ tm ∧ tm ≤ 999))) v) 25 [] [.long (nI (zs_lt a)).toInt64, .long tm.toInt64] v := by
    refine gX8_isLate_25 (k_inI tm (nI (zs_lt a)) 999 rfl rfl) (zq_i ?_)
    refine gX8_isLate_31 zi_and ?_
    exact zq_m _ _
  refine gX8_isLate_0 (fun h0 => ?_) (fun h0 => ?_)
  · rw [e1] at h0
    have h1 : a.1 1 0 ≠ 0 := fun q => h0 (by rw [q]; rfl)
    have e3 : nI (a.1 1 0) - 1 = nI (a.1 1 0 - 1) := pk_sub (b := 1) (by omega)
    refine gX8_isLate_13 (by rw [e1, e3]; exact vp_in_nI (by omega) (by decide)) ?_
    rw [e1, e3, zx_clamp (by omega), (e2 _ (by omega)).2.2.2]
    rw [show a.1 5 (a.1 1 0 - 1) = zs_lt a by rw [zs_lt, if_neg h1]]
    exact go
  · rw [e1] at h0
    refine gX8_isLate_9 ?_
    rw [show (0 : Int64) = (nI (zs_lt a)).toInt64 by rw [zs_lt, if_pos ((nI_eq (b := 0) (by omega) (by decide)).mp h0)]; rfl]
    exact go
theorem zs_lt_le {a : zs_A} (h : zs_ok a) : zs_lt a ≤ 999 := by
  unfold zs_lt
  split
  · omega
  · exact (h.2.1.2.1 _ (by omega)).2.2.2
theorem zs_tell_t (a : zs_A) (p q x tm : Nat) : (zs_tell a p q x tm).1 1 0 = a.1 1 0 + 1 := by simp [zs_tell, zs_u]
theorem zs_tell_ok {a : zs_A} (h : zs_ok a) {p q x tm : Nat} (hp : p < 12) (hq : q < 7) (hx : x < 3) (h1 : zs_lt a ≤ tm) (h2 : tm ≤ 999) (ht : a.1 1 0 ≠ 160) : zs_ok (zs_tell a p q x tm) := by
  obtain ⟨g1, g2, g3, g4, g5⟩ := h
  refine ⟨g1, ⟨?_, fun k hk => ?_, fun k hk => ?_⟩, g3, g4, g5⟩
  · rw [zs_tell_t]
    omega
  · rw [zs_tell_t] at hk
    unfold zs_tell
    by_cases e : k = a.1 1 0
    · subst e
      simp [zs_u]
      omega
    · simp [zs_u, e]
      exact g2.2.1 k (by omega)
  · rw [zs_tell_t] at hk
    unfold zs_tell
    have e : k ≠ a.1 1 0 := by omega
    by_cases e2 : k + 1 = a.1 1 0
    · simp [zs_u, e, e2]
      rw [zs_lt, if_neg (by omega), ← e2] at h1
      exact h1
    · simp [zs_u, e, e2]
      exact g2.2.2 k (by omega)
theorem m_answer {d : Nat} {a : zs_A} {v : zm_S} (h : zd_P a v) (p q x tm : Int32) : zm_C zd_H (d + 2) mX8_answer [.ref 0, .int p, .int q, .int x, .int tm] v (zp (.int (zs_answer a p q x tm).1) (zd_P (zs_answer a p q x tm).2)) := by
  refine zm_C.of mtX8_answer.1.2.2.2.2.2.2 rfl (Nat.le_of_ble_eq_true rfl) ?_
  have bad : ∀ (hb : ¬ ((0 ≤ p ∧ p < 12) ∧ (0 ≤ q ∧ q < 7) ∧ (0 ≤ x ∧ x < 3) ∧ nI (zs_lt a) ≤ tm ∧ tm ≤ 999)), zm_T zd_H (d + 2) mX8_answer (zp (.int (zs_answer a p q x tm).1) (zd_P (zs_answer a p q x tm).2)) 35 [] [] v := fun hb => by
    refine gX8_answer_35 ?_
    rw [zs_answer, if_neg hb]
    exact ⟨rfl, h⟩
  refine gX8_answer_0 (k_isPupil _) (zq_i ?_)
  refine gX8_answer_4 (fun h4 => bad (fun c => zi_0.mp h4 c.1)) (fun h4 => ?_)
  refine gX8_answer_7 (k_isAny _) (zq_i ?_)
  refine gX8_answer_11 (fun h11 => bad (fun c => zi_0.mp h11 c.2.1)) (fun h11 => ?_)
  refine gX8_answer_14 (k_inI x 0 2 rfl rfl) (zq_i ?_)
  refine gX8_answer_23 (fun h23 => bad (fun c => zx_lt3n h23 c.2.2.1)) (fun h23 => ?_)
  refine gX8_answer_26 (k_isLate h tm) (zq_i ?_)
  refine gX8_answer_32 (fun h32 => ?_) (fun h32 => bad (fun c => zi_0.mp h32 c.2.2.2))
  have hG : (0 ≤ p ∧ p < 12) ∧ (0 ≤ q ∧ q < 7) ∧ (0 ≤ x ∧ x < 3) ∧ nI (zs_lt a) ≤ tm ∧ tm ≤ 999 := ⟨zi_n0.mp h4, zi_n0.mp h11, zx_lt3 h23, zi_n0.mp h32⟩
  obtain ⟨e1, e2⟩ := h.2.2.1
  have ht := h.1.2.1.1
  have hlt := zs_lt_le h.1
  refine gX8_answer_38 (fun h38 => ?_) (fun h38 => ?_)
  · rw [e1] at h38
    have ht2 : a.1 1 0 ≠ 160 := fun c => h38 (by rw [c]; rfl)
    obtain ⟨p, hp, rfl⟩ := zx_of (n := 12) hG.1 (by decide)
    obtain ⟨q, hq, rfl⟩ := zx_of (n := 7) hG.2.1 (by decide)
    obtain ⟨x, hx, rfl⟩ := zx_of (n := 3) hG.2.2.1 (by decide)
    obtain ⟨tm, htm, rfl⟩ := zx_ofle (n := 999) (a := tm) ⟨Int32.le_trans (nI_pos' (by omega)) hG.2.2.2.1, hG.2.2.2.2⟩ (by decide)
    have hlt2 : zs_lt a ≤ tm := (nI_leI (by omega) (by omega)).mp hG.2.2.2.1
    have hin : vp_in (v.1 0 6) 160 := by rw [e1]; exact vp_in_nI (by omega) (by decide)
    refine gX8_answer_51 hin hin hin hin ?_
    rw [zs_answer, if_pos hG, if_neg ht2, e1, zx_clamp (by omega), zx_clamp (by omega), zx_clamp (by omega), zx_clamp (by omega), zx_clamp (by omega), nI_1]
    refine ⟨rfl, zs_tell_ok h.1 hp hq hx hlt2 htm ht2, h.2.1, ⟨?_, fun k hk => ?_⟩, h.2.2.2.1, h.2.2.2.2.1, h.2.2.2.2.2⟩
    · rw [zm_pa_at, pk_us, zs_tell_t]
    · rw [zs_tell_t] at hk
      by_cases e : k = a.1 1 0
      · simp [zm_pa_fst, zs_tell, zs_u, e, upd]
      · have := e2 k (by omega)
        simp [zm_pa_fst, zs_tell, zs_u, e, upd]
        exact this
  · rw [e1] at h38
    refine gX8_answer_48 ?_
    rw [zs_answer, if_pos hG, if_pos ((nI_eq (b := 160) (by omega) (by decide)).mp h38)]
    exact ⟨rfl, h⟩
