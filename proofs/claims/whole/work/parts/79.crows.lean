/-! ===== the search, whole ===== -/
theorem zo_full {W : Nat → Nat → Nat} {V : Nat → Nat} {n G F : Nat} (hc : zo_c W V n G F) {l : List Nat} (hl : l ≠ []) (hs : zo_s l = G) : fb_sm (zo_X W G l) 12 = zs_of W l 12 ∧ fb_sm (fun p => min (zo_X W G l p) (zpc (V p &&& zo_s l))) 12 = zs_of W l 12 := by
  rw [zs_of_zo]
  have h : ∀ p, (zo_m W p l).2 ≤ W p G := fun p => by have := zo_leG (W := W) (p := p) hl; rw [hs] at this; exact this
  refine ⟨fb_sm_cong (fun p _ => ?_), fb_sm_cong (fun p _ => ?_)⟩
  · have := h p
    show min (W p G) (zo_m W p l).2 = _
    omega
  · have := h p
    have e := hc.2.2.2.2.1 p
    rw [hs]
    show min (min (W p G) (zo_m W p l).2) (zpc (V p &&& G)) = (zo_m W p l).2
    omega
theorem zo_getD_at (pre : List Nat) (q : Nat) : (pre ++ [q]).getD pre.length 0 = q := by simp [List.getD]
theorem zo_getD_lt {pre : List Nat} {q j : Nat} (h : j < pre.length) : (pre ++ [q]).getD j 0 = pre.getD j 0 := by simp [List.getD, List.getElem?_append_left h]
theorem zo_trial {pre : List Nat} {q : Nat} {v : zm_S} (ht : ∀ j, j < pre.length → v.1 20 j = nI (pre.getD j 0)) : ∀ j, j < (pre ++ [q]).length → (zm_pi v 20 pre.length (nI q)).1 20 j = nI ((pre ++ [q]).getD j 0) := by
  intro j hj
  rw [List.length_append, List.length_singleton] at hj
  rw [zm_pa_at]
  by_cases z : j = pre.length
  · rw [z, pk_us, zo_getD_at]
  · rw [pk_un z, ht j (by omega), zo_getD_lt (by omega)]
theorem zt_K_tr {sk : Bool} {i : Nat} {v : zm_S} {x : Int32} : zt_K sk i v (zm_pi v 20 i x) := ⟨fun k a b c => zm_pa_ne b, rfl, fun j a b => by rw [zm_pa_ne (by decide)], fun j hj => by rw [zm_pa_at, pk_un (by omega)], fun _ => by rw [zm_pa_ne (by decide)]⟩
theorem zt_J.tr {n : Nat} {W : Nat → Nat → Nat} {sk : Bool} {F : Nat} {L : List (List Nat)} {v : zm_S} (h : zt_J n W sk F L v) {i : Nat} {x : Int32} : zt_J n W sk F L (zm_pi v 20 i x) := ⟨by rw [zm_pa_ne (by decide)]; exact h.1, fun hs => ⟨by rw [zm_pa_ne (by decide)]; exact (h.2 hs).1, fun h0 j hj => by rw [zm_pa_ne (by decide)]; exact (h.2 hs).2 h0 j hj⟩⟩
theorem k_extend {W : Nat → Nat → Nat} {V : Nat → Nat} {n G F : Nat} (hc : zo_c W V n G F) {sk : Bool} : ∀ (m : Nat) (pre : List Nat) (L : List (List Nat)) (d : Nat) (w : zm_S), (zo_r n G (zo_s pre)).length = m + 1 → pre.length + (m + 1) ≤ n → (sk = true → pre.length + (m + 1) = n) → zo_s pre &&& G = zo_s pre → zt_T n G W V sk w → zt_J n W sk F L w → (∀ j, j < pre.length → w.1 20 j = nI (pre.getD j 0)) → L.length + 7 ^ (m + 1) ≤ 10000000 → (∀ l, l ∈ L → zs_of W l 12 ≤ F) → zm_C zc_H (d + m + 1) mX4_extend [.ref 15, .int (nI pre.length), .int (nI (zo_s pre)), .long (lN (zk (zo_X W G pre) 12))] w (zp .null (fun u => zt_J n W sk F (L ++ (zs_prm (m + 1) (zo_r n G (zo_s pre))).map (fun r => pre ++ r)) u ∧ zt_K sk pre.length w u)) := by
  have hn := hc.1.1
  have hG := hc.G
  have hF := hc.F
  have x7 : ∀ l p, p < 12 → zo_X W G l p ≤ 7 := fun l p _ => by have := hc.2.1 p G; show min (W p G) _ ≤ 7; omega
  have setlt : ∀ s, s &&& G = s → s < 128 := fun s hs => by
    have := @Nat.and_le_right s G
    omega
  intro m
  induction m with
  | zero =>
    intro pre L d w hlen hpl hpn hu hT hJ ht hL hLF
    refine zm_C.of mtX4_extend.1.2.2.2.2.2.2 rfl (Nat.le_of_ble_eq_true rfl) ?_
    refine gX4_extend_0 (fun _ => gX4_extend_9 ?_) (fun z => absurd ?_ z)
    rotate_left
    · rw [hT.1, nI_ltI (by omega) (by omega)]; omega
    refine l_extend hc (D := d + 0) hu hlen hT ht hLF hL (fun q Lq v hmem hTv hJv htv hLq hLqF hh Q hQ => ?_) n 0 w (by omega) (by simpa using hJ) (zt_K.rf _ _ _) rfl (by simp) (by simp)
    have hlen2 : (zo_r n G (zo_s (pre ++ [q]))).length = 0 := by rw [zo_s1, ← zo_r_erase hmem, List.length_erase_of_mem hmem, hlen]
    have hsub : zo_s (pre ++ [q]) &&& G = zo_s (pre ++ [q]) := by rw [zo_s1]; exact zo_sub hu hmem
    have hfull : zo_s (pre ++ [q]) = G := (zo_r_nil hc.1.2 hsub).mp (List.length_eq_zero_iff.mp hlen2)
    obtain ⟨f1, f2⟩ := zo_full hc (l := pre ++ [q]) (by simp) hfull
    rw [f2] at hh
    have hset := setlt _ hsub
    refine gX4_extend_85 (vp_in_nI (by omega) (by decide)) (fun g => absurd ?_ g) (fun _ => ?_)
    · rw [hTv.2.1, hfull]
    rw [zx_clamp (by omega)]
    refine gX4_extend_102 (k_total (x7 _)) (zq_i ?_)
    rw [f1]
    have hJ2 := hJv.tr (i := pre.length) (x := nI q)
    have hT2 := hTv.keep (zt_K_tr (sk := sk) (i := pre.length) (v := v) (x := nI q))
    refine gX4_extend_108 (k_judgeC hn (by omega) hT2.1 hT2.2.2.1 hJ2 (by rw [Nat.pow_zero] at hLq; omega) hLqF (zo_fit hc (by simp) hfull) (fun j hj hs => zo_trial htv j (by rw [List.length_append, List.length_singleton]; have := hpn hs; omega)) hh) (zp_v (fun u hu2 => gX4_extend_111 (hQ u ?_ ?_)))
    · have e : zo_F n G 0 pre q = [pre ++ [q]] := rfl
      rw [e]
      exact hu2.1
    · exact (zt_K_tr (sk := sk) (i := pre.length) (v := v) (x := nI q)).tr hu2.2 (by omega)
  | succ m ih =>
    intro pre L d w hlen hpl hpn hu hT hJ ht hL hLF
    refine zm_C.of mtX4_extend.1.2.2.2.2.2.2 rfl (Nat.le_of_ble_eq_true rfl) ?_
    refine gX4_extend_0 (fun _ => gX4_extend_9 ?_) (fun z => absurd ?_ z)
    rotate_left
    · rw [hT.1, nI_ltI (by omega) (by omega)]; omega
    refine l_extend hc (D := d + (m + 1)) hu hlen hT ht hLF hL (fun q Lq v hmem hTv hJv htv hLq hLqF hh Q hQ => ?_) n 0 w (by omega) (by simpa using hJ) (zt_K.rf _ _ _) rfl (by simp) (by simp)
    have hlen2 : (zo_r n G (zo_s (pre ++ [q]))).length = m + 1 := by rw [zo_s1, ← zo_r_erase hmem, List.length_erase_of_mem hmem, hlen]; rfl
    have hsub : zo_s (pre ++ [q]) &&& G = zo_s (pre ++ [q]) := by rw [zo_s1]; exact zo_sub hu hmem
    have hset := setlt _ hsub
    have hnf : zo_s (pre ++ [q]) ≠ G := fun z => by
      rw [(zo_r_nil hc.1.2 hsub).mpr z] at hlen2
      cases hlen2
    have hpl2 : (pre ++ [q]).length = pre.length + 1 := by rw [List.length_append, List.length_singleton]
    refine gX4_extend_85 (vp_in_nI (by omega) (by decide)) (fun _ => ?_) (fun g => absurd ?_ hnf)
    rotate_left
    · rw [hTv.2.1, nI_eq (by omega) (by omega)] at g; exact g
    rw [zx_clamp (by omega)]
    have hJ2 := hJv.tr (i := pre.length) (x := nI q)
    have hT2 := hTv.keep (zt_K_tr (sk := sk) (i := pre.length) (v := v) (x := nI q))
    have hC := ih (pre ++ [q]) Lq d (zm_pi v 20 pre.length (nI q)) hlen2 (by omega) (fun hs => by have := hpn hs; omega) hsub hT2 hJ2 (zo_trial htv) hLq hLqF
    refine gX4_extend_114 (by rw [nI_1, ← hpl2]; exact hC) (zp_v (fun u hu2 => hQ u ?_ ?_))
    · have e : zo_F n G (m + 1) pre q = (zs_prm (m + 1) (zo_r n G (zo_s (pre ++ [q])))).map (fun r => pre ++ [q] ++ r) := by
        unfold zo_F
        rw [zo_s1]
        exact List.map_congr_left (fun r _ => by rw [List.append_assoc]; rfl)
      rw [e]
      exact hu2.1
    · exact (zt_K_tr (sk := sk) (i := pre.length) (v := v) (x := nI q)).tr hu2.2 (by omega)
/-! ===== the tables ===== -/
/-- what pupils said to a question, in lanes -/
def zw_b (f : Nat → Nat) (q : Nat) : Nat → Nat := fun p => if (f p).testBit q = true then 1 else 0
theorem zt_low : ∀ s, s < 128 → s ≠ 0 → s.testBit (zt s) = true ∧ s &&& (s - 1) = s ^^^ 2 ^ zt s ∧ s &&& (s - 1) < s ∧ zt s < 7 := by decide +kernel
theorem zt_sub : ∀ s, s < 128 → s ≠ 0 → (s &&& (s - 1)) ||| 2 ^ zt s = s ∧ (s &&& (s - 1)).testBit (zt s) = false := by decide +kernel
/-- errors, one question more -/
theorem zw_step {x y s q : Nat} (hx : x < 128) (hy : y < 128) (hq : q < 7) (hs : s.testBit q = false) : (zpc (x &&& (127 ^^^ (s ||| 2 ^ q))) + zpc (y &&& (s ||| 2 ^ q))) + (if x.testBit q = true then 1 else 0) = (zpc (x &&& (127 ^^^ s)) + zpc (y &&& s)) + (if y.testBit q = true then 1 else 0) := by
  have h1 := zpc_split (x &&& (127 ^^^ s)) (2 ^ q)
  have h2 := zpc_split (y &&& (s ||| 2 ^ q)) (2 ^ q)
  have b127 : (127 : Nat).testBit q = true := by rw [show 127 = 2 ^ 7 - 1 from rfl, Nat.testBit_two_pow_sub_one]; exact decide_eq_true hq
  have one : zpc (2 ^ q) = 1 := by
    have : ∀ q, q < 7 → zpc (2 ^ q) = 1 := by decide +kernel
    exact this q hq
  have e1 : (x &&& (127 ^^^ s)) &&& 2 ^ q = if x.testBit q = true then 2 ^ q else 0 := by
    apply Nat.eq_of_testBit_eq
    intro i
    rw [Nat.testBit_and, Nat.testBit_and, Nat.testBit_xor, Nat.testBit_two_pow]
    by_cases c : q = i
    · subst c
      rw [hs, b127]
      by_cases c2 : x.testBit q = true
      · rw [if_pos c2, Nat.testBit_two_pow_self, c2]; simp
      · rw [if_neg c2, Nat.zero_testBit, Bool.not_eq_true _ |>.mp c2]; rfl
    · rw [decide_eq_false c, Bool.and_false]
      split
      · rw [Nat.testBit_two_pow, decide_eq_false c]
      · rw [Nat.zero_testBit]
  have e2 : (x &&& (127 ^^^ s)) ^^^ ((x &&& (127 ^^^ s)) &&& 2 ^ q) = x &&& (127 ^^^ (s ||| 2 ^ q)) := by
    apply Nat.eq_of_testBit_eq
    intro i
    simp only [Nat.testBit_xor, Nat.testBit_and, Nat.testBit_or, Nat.testBit_two_pow]
    by_cases c : q = i
    · subst c
      rw [hs, b127]
      cases x.testBit q <;> simp
    · rw [decide_eq_false c]
      cases x.testBit i <;> cases (127 : Nat).testBit i <;> cases s.testBit i <;> rfl
  have e3 : (y &&& (s ||| 2 ^ q)) &&& 2 ^ q = if y.testBit q = true then 2 ^ q else 0 := by
    apply Nat.eq_of_testBit_eq
    intro i
    rw [Nat.testBit_and, Nat.testBit_and, Nat.testBit_or, Nat.testBit_two_pow]
    by_cases c : q = i
    · subst c
      rw [hs]
      by_cases c2 : y.testBit q = true
      · rw [if_pos c2, Nat.testBit_two_pow_self, c2]; simp
      · rw [if_neg c2, Nat.zero_testBit, Bool.not_eq_true _ |>.mp c2]; rfl
    · rw [decide_eq_false c, Bool.and_false]
      split
      · rw [Nat.testBit_two_pow, decide_eq_false c]
      · rw [Nat.zero_testBit]
  have e4 : (y &&& (s ||| 2 ^ q)) ^^^ ((y &&& (s ||| 2 ^ q)) &&& 2 ^ q) = y &&& s := by
    apply Nat.eq_of_testBit_eq
    intro i
    simp only [Nat.testBit_xor, Nat.testBit_and, Nat.testBit_or, Nat.testBit_two_pow]
    by_cases c : q = i
    · subst c
      rw [hs]
      cases y.testBit q <;> simp
    · rw [decide_eq_false c]
      cases y.testBit i <;> cases s.testBit i <;> rfl
  rw [e2, e1] at h1
  rw [e4, e3] at h2
  have p0 : zpc 0 = 0 := by decide
  by_cases c1 : x.testBit q = true <;> by_cases c2 : y.testBit q = true
  · rw [if_pos c1] at h1 ⊢; rw [if_pos c2] at h2 ⊢; rw [one] at h1 h2; omega
  · rw [if_pos c1] at h1 ⊢; rw [if_neg c2] at h2 ⊢; rw [one] at h1; rw [p0] at h2; omega
  · rw [if_neg c1] at h1 ⊢; rw [if_pos c2] at h2 ⊢; rw [one] at h2; rw [p0] at h1; omega
  · rw [if_neg c1] at h1 ⊢; rw [if_neg c2] at h2 ⊢; rw [p0] at h1 h2; omega
theorem zw_floor {y s q : Nat} (hq : q < 7) (hy : y < 128) (hs : s.testBit q = false) : zpc (y &&& (s ||| 2 ^ q)) = zpc (y &&& s) + (if y.testBit q = true then 1 else 0) := by
  have := zw_step (x := 0) (y := y) (s := s) (q := q) (by decide) hy hq hs
  simp only [Nat.zero_and, Nat.zero_testBit, Bool.false_eq_true, if_false] at this
  omega
