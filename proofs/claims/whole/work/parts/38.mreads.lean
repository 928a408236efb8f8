theorem zs_let_lt {a : zs_A} {i x : Nat} (h : zs_let a i = some x) : x < 7 ∧ i < a.1 6 0 ∧ a.1 7 i = x + 97 := by
  unfold zs_let at h
  split at h
  · rename_i q
    cases h
    omega
  · cases h
theorem zx_letter {a : zs_A} (hk : zs_ok a) (i : Nat) : (0 ≤ (if i < a.1 6 0 then nI (a.1 7 i) else -1) - 97 ∧ (if i < a.1 6 0 then nI (a.1 7 i) else -1) - 97 < 7) ↔ ∃ x, zs_let a i = some x := by
  by_cases q : i < a.1 6 0
  · have := hk.2.2.1.2 i q
    rw [if_pos q, zx_m97 _ this]
    unfold zs_let
    constructor
    · intro z
      exact ⟨_, if_pos ⟨q, z⟩⟩
    · rintro ⟨x, hx⟩
      split at hx
      · rename_i z; exact z.2
      · cases hx
  · rw [if_neg q]
    constructor
    · intro z
      exact absurd z.1 (by decide)
    · rintro ⟨x, hx⟩
      exact absurd (zs_let_lt hx).2.1 q
theorem zx_let {a : zs_A} {i x : Nat} (h : zs_let a i = some x) : (if i < a.1 6 0 then nI (a.1 7 i) else -1) - 97 = nI x := by
  obtain ⟨h1, h2, h3⟩ := zs_let_lt h
  rw [if_pos h2, h3, show (97 : Int32) = nI 97 from rfl, pk_sub (by omega), Nat.add_sub_cancel]
theorem zs_tnu_lt {tn : Nat → Nat} (ht : ∀ q, q < 7 → tn q < 128) {x y : Nat} (hx : x < 7) (hy : y < 7) : ∀ q, q < 7 → zs_tnu tn x y q < 128 := by
  intro q hq
  unfold zs_tnu
  split
  · exact zy_or_lt (ht y hy) (zy_lt hx)
  · exact ht q hq
theorem k_readsPart {d : Nat} {a : zs_A} {v : zm_S} (h : zd_P a v) {i c : Nat} {tn : Nat → Nat} (hR : zd_R v i c tn) (hl : i < 90) (ht : ∀ q, q < 7 → tn q < 128) : zm_C zd_H (d + 2) mX8_readsPart [.ref 0] v (fun r u => (∃ j c' tn', zs_part a tn i = .inl j ∧ j < i + 3 ∧ r = .int 0 ∧ zd_P a u ∧ zd_K v u ∧ zd_R u j c' tn') ∨ (∃ x y, zs_part a tn i = .inr (x, y) ∧ x < 7 ∧ y < 7 ∧ r = .int 1 ∧ zd_P a u ∧ zd_K v u ∧ zd_R u (i + 3) (c + 1) (zs_tnu tn x y))) := by
  refine zm_C.of mtX8_readsPart.1.2.2.2.2.2.2 rfl (Nat.le_of_ble_eq_true rfl) ?_
  refine gX8_readsPart_0 (k_here h hR.1 (by omega)) (zq_i ?_)
  refine gX8_readsPart_4 (k_isAny _) (zq_i ?_)
  refine gX8_readsPart_12 (fun g => ?_) (fun g => gX8_readsPart_15 ?_)
  rotate_left
  · rw [zi_0, zx_letter h.1] at g
    have e : zs_let a i = none := by cases q : zs_let a i with | none => rfl | some x => exact absurd ⟨x, q⟩ g
    exact Or.inl ⟨i, c, tn, by rw [zs_part, e], by omega, rfl, h, zd_K.rf v, hR⟩
  rw [zi_n0, zx_letter h.1] at g
  obtain ⟨x, hx⟩ := g
  have hx7 := (zs_let_lt hx).1
  rw [zx_let hx]
  have h2 : zd_P a (zm_pi v 0 14 (nI (i + 1))) := h.pf (by decide) _
  have hR2 := hR.step
  have hK2 : zd_K v (zm_pi v 0 14 (nI (i + 1))) := zd_K.f _ _
  refine gX8_readsPart_17 (by rw [hR.1, nI_1]; exact k_takes h2 hR2 (by omega) (b := 60) (by decide)) (fun r u hu => ?_)
  rcases hu with ⟨hr, hb, hP3, hK3, hR3⟩ | ⟨hr, hb, rfl⟩
  rotate_left
  · cases hr
    refine gX8_readsPart_33 (fun g => absurd rfl g) (fun _ => gX8_readsPart_36 ?_)
    exact Or.inl ⟨i + 1, c, tn, by rw [zs_part, hx]; simp only; rw [if_neg hb], by omega, rfl, h2, hK2, hR2⟩
  cases hr
  refine gX8_readsPart_33 (fun _ => ?_) (fun g => absurd g (by decide))
  refine gX8_readsPart_38 (k_here hP3 hR3.1 (by omega)) (zq_i ?_)
  refine gX8_readsPart_42 (k_isAny _) (zq_i ?_)
  refine gX8_readsPart_50 (fun g => gX8_readsPart_67 ?_) (fun g => ?_)
  · rw [zi_0, zx_letter h.1] at g
    have e : zs_let a (i + 2) = none := by cases q : zs_let a (i + 2) with | none => rfl | some x => exact absurd ⟨x, q⟩ g
    exact Or.inl ⟨i + 2, c, tn, by rw [zs_part, hx]; simp only; rw [if_pos hb, e], by omega, rfl, hP3, hK2.tr hK3, hR3⟩
  rw [zi_n0, zx_letter h.1] at g
  obtain ⟨y, hy⟩ := g
  have hy7 := (zs_let_lt hy).1
  rw [zx_let hy]
  refine gX8_readsPart_53 (by rw [zy_bit x (by omega)]; exact k_ahead ht hR3.2.2 (zy_lt hx7)) (zq_i ?_)
  have hal := zs_ahr_lt ht (zy_lt hx7) 7
  refine gX8_readsPart_60 (k_isIn (by omega) (by omega)) (zq_i ?_)
  refine gX8_readsPart_64 (fun g => ?_) (fun g => gX8_readsPart_67 ?_)
  rotate_left
  · rw [zi_n0] at g
    exact Or.inl ⟨i + 2, c, tn, by rw [zs_part, hx]; simp only; rw [if_pos hb, hy]; simp only; rw [if_pos g], by omega, rfl, hP3, hK2.tr hK3, hR3⟩
  rw [zi_0] at g
  refine gX8_readsPart_69 (vp_in_nI hy7 (by decide)) (vp_in_nI hy7 (by decide)) ?_
  refine Or.inr ⟨x, y, by rw [zs_part, hx]; simp only; rw [if_pos hb, hy]; simp only; rw [if_neg g], hx7, hy7, rfl, ?_, ?_, ?_⟩
  · exact ((hP3.pf (by decide) _).pa (by omega) _).pf (by decide) _
  · exact ((hK2.tr hK3).tr (zd_K.f _ _)).tr ((zd_K.n _).tr (zd_K.f _ _))
  · rw [hR3.1, hR3.2.1, zx_clamp (by omega), hR3.2.2 y hy7, zy_bit x (by omega), fa_or, nI_1, nI_1]
    refine ⟨?_, ?_, fun q hq => ?_⟩
    · simp [zm_pa_fst, upd]
    · simp [zm_pa_fst, upd]
    · have e := hR3.2.2 q hq
      unfold zs_tnu
      by_cases z : q = y
      · simp [zm_pa_fst, upd, z]
      · simp [zm_pa_fst, upd, z]
        exact e
theorem l_reads {d : Nat} {a : zs_A} {w : zm_S} : ∀ (m i c : Nat) (tn : Nat → Nat) (v : zm_S), zd_P a v → zd_K w v → zd_R v i c tn → (∀ q, q < 7 → tn q < 128) → i ≤ a.1 6 0 → i + 4 * m > 60 → zm_T zd_H (d + 3) mX8_reads (fun r u => r = .int (zs_fl (zs_rds a m i c tn).1) ∧ zd_P a u ∧ zd_K w u ∧ ∃ i', zd_R u i' (zs_rds a m i c tn).2.1 (zs_rds a m i c tn).2.2) 26 [(0, .ref 0)] [] v := by
  intro m
  induction m with
  | zero =>
    intro i c tn v h hK hR ht hi hm
    have := h.1.2.2.1.1
    omega
  | succ m ih =>
    intro i c tn v h hK hR ht hi hm
    have hlen := h.1.2.2.1.1
    refine gX8_reads_26 (k_readsPart h hR (by omega) ht) (fun r u hu => ?_)
    rcases hu with ⟨j, c', tn', hp, hj, hr, hP2, hK2, hR2⟩ | ⟨x, y, hp, hx7, hy7, hr, hP2, hK2, hR2⟩
    · cases hr
      refine gX8_reads_30 (fun g => absurd rfl g) (fun _ => ?_)
      refine gX8_reads_33 (k_clears hP2 hR2.1) (zp_v (fun z hz => gX8_reads_37 ?_))
      rw [zs_rds, hp]
      exact ⟨by rw [hz.2.2.1]; rfl, hz.1, (hK.tr hK2).tr hz.2.1, j, hz.2.2⟩
    · cases hr
      have e1 := hP2.2.2.2.1.1
      refine gX8_reads_30 (fun _ => ?_) (fun g => absurd g (by decide))
      refine gX8_reads_42 (fun g => gX8_reads_57 (gX8_reads_58 (fun _ => gX8_reads_22 (fun _ => gX8_reads_81 ?_) (fun z => absurd rfl z)) (fun z => absurd rfl z))) (fun g => gX8_reads_53 (gX8_reads_58 (fun z => absurd z (by decide)) (fun _ => ?_)))
      · rw [e1, hR2.1, nI_leI (by omega) (by omega)] at g
        rw [zs_rds, hp]
        simp only
        rw [if_neg (by omega)]
        exact ⟨rfl, hP2, hK.tr hK2, i + 3, hR2⟩
      · rw [e1, hR2.1, nI_leI (by omega) (by omega)] at g
        refine gX8_reads_63 (k_takes hP2 hR2 (by omega) (b := 59) (by decide)) (fun r z hz => ?_)
        rcases hz with ⟨hr, hb, hP3, hK3, hR3⟩ | ⟨hr, hb, rfl⟩
        · cases hr
          refine gX8_reads_69 (fun _ => gX8_reads_22 (fun q => absurd q (by decide)) (fun _ => ?_)) (fun q => absurd q (by decide))
          rw [zs_rds, hp]
          simp only
          rw [if_pos (by omega), if_pos hb.2]
          exact ih (i + 4) (c + 1) (zs_tnu tn x y) z hP3 ((hK.tr hK2).tr hK3) hR3 (zs_tnu_lt ht hx7 hy7) (by omega) (by omega)
        · cases hr
          refine gX8_reads_69 (fun q => absurd rfl q) (fun _ => ?_)
          refine gX8_reads_72 (k_clears hP2 hR2.1) (zp_v (fun z hz => gX8_reads_76 ?_))
          rw [zs_rds, hp]
          simp only
          rw [if_pos (by omega), if_neg (fun q => hb ⟨by omega, q⟩)]
          exact ⟨by rw [hz.2.2.1]; rfl, hz.1, (hK.tr hK2).tr hz.2.1, i + 3, hz.2.2⟩
/-- what the reading of the text leaves in the model -/
def zd_T (a : zs_A) (v : zm_S) : Prop := v.1 0 15 = nI (zs_reads a).2.1 ∧ ∀ q, q < 7 → v.1 12 q = nI ((zs_reads a).2.2 q)
theorem k_reads {d : Nat} {a : zs_A} {v : zm_S} (h : zd_P a v) : zm_C zd_H (d + 3) mX8_reads [.ref 0] v (zp (.int (zs_fl (zs_reads a).1)) (fun u => zd_P a u ∧ zd_K v u ∧ zd_T a u)) := by
  refine zm_C.of mtX8_reads.1.2.2.2.2.2.2 rfl (Nat.le_of_ble_eq_true rfl) ?_
  have e1 := h.2.2.2.1.1
  have hlen := h.1.2.2.1.1
  refine gX8_reads_0 (k_clears (i := 0) (h.pf (by decide) _) (by rw [zm_pa_at, pk_us]; rfl)) (zp_v (fun u hu => ?_))
  have eu := hu.1.2.2.2.1.1
  have hKu : zd_K v u := (zd_K.f _ _).tr hu.2.1
  refine gX8_reads_9 (fun g => gX8_reads_20 (gX8_reads_21 (gX8_reads_22 (fun _ => gX8_reads_81 ?_) (fun z => absurd rfl z)))) (fun g => gX8_reads_16 (gX8_reads_21 (gX8_reads_22 (fun z => absurd z (by decide)) (fun _ => ?_))))
  · rw [eu, show (0 : Int32) = nI 0 from rfl, nI_leI (by omega) (by decide)] at g
    have e : zs_reads a = (none, 0, fun _ => 0) := by rw [zs_reads, if_pos (by omega)]
    refine ⟨by rw [e]; rfl, hu.1, hKu, ?_⟩
    rw [zd_T, e]
    exact ⟨hu.2.2.2.1, hu.2.2.2.2⟩
  · rw [eu, show (0 : Int32) = nI 0 from rfl, nI_leI (by omega) (by decide)] at g
    have e : zs_reads a = zs_rds a 16 0 0 (fun _ => 0) := by rw [zs_reads, if_neg (by omega)]
    have := l_reads (d := d) (a := a) (w := v) 16 0 0 (fun _ => 0) u hu.1 hKu hu.2.2 (fun _ _ => by decide) (by omega) (by omega)
    rw [← e] at this
    refine zm_T.post (fun r z hz => ?_) this
    obtain ⟨q1, q2, q3, i', q4⟩ := hz
    exact ⟨q1, q2, q3, q4.2.1, q4.2.2⟩
