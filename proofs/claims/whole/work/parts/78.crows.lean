/-! ===== the search, deeper ===== -/
def zo_X (W : Nat → Nat → Nat) (G : Nat) (l : List Nat) : Nat → Nat := fun p => min (W p G) (zo_m W p l).2
def zo_F (n G m : Nat) (pre : List Nat) (x : Nat) : List (List Nat) := (zs_prm m (zo_r n G (zo_s pre ||| 2 ^ x))).map (fun r => pre ++ x :: r)
def zo_c (W : Nat → Nat → Nat) (V : Nat → Nat) (n G F : Nat) : Prop := (n ≤ 7 ∧ G < 2 ^ n) ∧ (∀ p s, W p s ≤ 7) ∧ (∀ p, V p < 128) ∧ (∀ p s0 s, s0 &&& s = s0 → zpc (V p &&& s0) ≤ W p s) ∧ (∀ p, W p G = zpc (V p &&& G)) ∧ F = fb_sm (fun p => min (W p 0) (W p G)) 12
theorem zo_c.F {W : Nat → Nat → Nat} {V : Nat → Nat} {n G F : Nat} (h : zo_c W V n G F) : F ≤ 84 := by
  rw [h.2.2.2.2.2]
  exact fb_sm_bound (fun p _ => by have := h.2.1 p 0; show min (W p 0) (W p G) ≤ 7; omega)
theorem zo_c.G {W : Nat → Nat → Nat} {V : Nat → Nat} {n G F : Nat} (h : zo_c W V n G F) : G < 128 := Nat.lt_of_lt_of_le h.1.2 (Nat.pow_le_pow_right (n := 2) (j := 7) (by decide) h.1.1)
theorem zo_leaf {n G : Nat} (hG : G < 2 ^ n) : ∀ (m : Nat) (pre : List Nat), zo_s pre &&& G = zo_s pre → (zo_r n G (zo_s pre)).length = m → ∀ r, r ∈ zs_prm m (zo_r n G (zo_s pre)) → zo_s (pre ++ r) = G
  | 0, pre, hu, hl, r, hr => by
    rw [zs_prm, List.mem_singleton] at hr
    subst hr
    rw [List.append_nil]
    exact (zo_r_nil hG hu).mp (List.length_eq_zero_iff.mp hl)
  | m + 1, pre, hu, hl, r, hr => by
    rw [zs_prm] at hr
    obtain ⟨x, hx, hr2⟩ := List.mem_flatMap.mp hr
    obtain ⟨r', hr', rfl⟩ := List.mem_map.mp hr2
    have hlen : (zo_r n G (zo_s pre ||| 2 ^ x)).length = m := by rw [← zo_r_erase hx, List.length_erase_of_mem hx, hl]; rfl
    rw [zo_r_erase hx] at hr'
    rw [← zo_s1] at hr' hlen
    have := zo_leaf hG m (pre ++ [x]) (by rw [zo_s1]; exact zo_sub hu hx) hlen r' hr'
    rw [List.append_assoc] at this
    exact this
theorem zo_fit {W : Nat → Nat → Nat} {V : Nat → Nat} {n G F : Nat} (h : zo_c W V n G F) {l : List Nat} (hl : l ≠ []) (hs : zo_s l = G) : zs_of W l 12 ≤ F := by
  rw [zs_of_zo, h.2.2.2.2.2]
  refine fb_sm_le (fun p _ => ?_)
  have h1 : (zo_m W p l).2 ≤ W p 0 := zo_le0 W p l _
  have h2 : (zo_m W p l).2 ≤ W p (zo_s l) := zo_leG hl
  rw [hs] at h2
  show (zo_m W p l).2 ≤ min (W p 0) (W p G)
  omega
theorem zo_floor {W : Nat → Nat → Nat} {V : Nat → Nat} {n G F : Nat} (h : zo_c W V n G F) (pre r : List Nat) : fb_sm (fun p => min (zo_X W G pre p) (zpc (V p &&& zo_s pre))) 12 ≤ zs_of W (pre ++ r) 12 := by
  rw [zs_of_zo]
  refine fb_sm_le (fun p _ => ?_)
  have := zo_ge (W := W) (p := p) (pre := pre) (r := r) (f := zpc (V p &&& zo_s pre)) (fun s hs => h.2.2.2.1 p _ s hs)
  show min (min (W p G) (zo_m W p pre).2) (zpc (V p &&& zo_s pre)) ≤ (zo_m W p (pre ++ r)).2
  omega
theorem zo_all {n G m : Nat} {pre : List Nat} : (zs_prm (m + 1) (zo_r n G (zo_s pre))).map (fun r => pre ++ r) = (zo_r n G (zo_s pre)).flatMap (zo_F n G m pre) := by
  rw [zs_prm, List.map_flatMap, List.flatMap_def, List.flatMap_def]
  congr 1
  refine List.map_congr_left (fun x hx => ?_)
  rw [zo_r_erase hx, List.map_map]
  rfl
theorem zt_J.skip {n : Nat} {W : Nat → Nat → Nat} {sk : Bool} {F : Nat} {L L' : List (List Nat)} {u : zm_S} (h : zt_J n W sk F L u) (hF : ∀ l, l ∈ L' → zs_of W l 12 ≤ F) {f : Nat} (hf : ∀ l, l ∈ L' → f ≤ zs_of W l 12) (hh : if sk = true then min F (zs_bfold W L).1 < f else min F (zs_bfold W L).1 ≤ f) : zt_J n W sk F (L ++ L') u := by
  unfold zt_J
  rw [zs_bfold_app]
  cases hs : sk
  · rw [hs] at hh
    simp only [Bool.false_eq_true, if_false] at hh
    rw [zs_bminF L' _ (fun l hl => Nat.le_trans hh (hf l hl))]
    exact ⟨h.1, fun q => by cases q⟩
  · rw [hs, if_pos rfl] at hh
    rw [zs_bskip L' _ (fun l hl => by have := hf l hl; have := hF l hl; omega)]
    rw [hs] at h
    exact h
theorem zo_XS {W : Nat → Nat → Nat} {G : Nat} {pre : List Nat} {q : Nat} : zk (fun p => min (zo_X W G pre p) (W p (zo_s (pre ++ [q])))) 12 = zk (zo_X W G (pre ++ [q])) 12 := zk_cong (fun p _ => by
  show min (min (W p G) (zo_m W p pre).2) (W p (zo_s (pre ++ [q]))) = min (W p G) (zo_m W p (pre ++ [q])).2
  rw [zo_m_1]
  omega)
theorem l_extend {W : Nat → Nat → Nat} {V : Nat → Nat} {n G F : Nat} (hc : zo_c W V n G F) {sk : Bool} {m : Nat} {pre : List Nat} {L : List (List Nat)} {D : Nat} {w : zm_S} (hu : zo_s pre &&& G = zo_s pre) (hlen : (zo_r n G (zo_s pre)).length = m + 1) (hT : zt_T n G W V sk w) (ht : ∀ j, j < pre.length → w.1 20 j = nI (pre.getD j 0)) (hLF : ∀ l, l ∈ L → zs_of W l 12 ≤ F) (hL : L.length + 7 ^ (m + 1) ≤ 10000000)
    (hgo : ∀ (q : Nat) (Lq : List (List Nat)) (v : zm_S), q ∈ zo_r n G (zo_s pre) → zt_T n G W V sk v → zt_J n W sk F Lq v → (∀ j, j < pre.length → v.1 20 j = nI (pre.getD j 0)) → Lq.length + 7 ^ m ≤ 10000000 → (∀ l, l ∈ Lq → zs_of W l 12 ≤ F) → ¬ (if sk = true then min F (zs_bfold W Lq).1 < fb_sm (fun p => min (zo_X W G (pre ++ [q]) p) (zpc (V p &&& zo_s (pre ++ [q])))) 12 else min F (zs_bfold W Lq).1 ≤ fb_sm (fun p => min (zo_X W G (pre ++ [q]) p) (zpc (V p &&& zo_s (pre ++ [q])))) 12) → ∀ Q : Value → zm_S → Prop, (∀ u, zt_J n W sk F (Lq ++ zo_F n G m pre q) u → zt_K sk pre.length v u → zm_T zc_H (D + 1) mX4_extend Q 125 [(0, .ref 15), (1, .int (nI pre.length)), (2, .int (nI (zo_s pre))), (3, .long (lN (zk (zo_X W G pre) 12))), (5, .int (nI q))] [] u) → zm_T zc_H (D + 1) mX4_extend Q 85 [(0, .ref 15), (1, .int (nI pre.length)), (2, .int (nI (zo_s pre))), (3, .long (lN (zk (zo_X W G pre) 12))), (5, .int (nI q)), (7, .int (nI (zo_s (pre ++ [q])))), (8, .long (lN (zk (zo_X W G (pre ++ [q])) 12)))] [] v) :
    ∀ (t q : Nat) (v : zm_S), q + t = n → zt_J n W sk F (L ++ ((List.range q).filter (fun x => G.testBit x && !(zo_s pre).testBit x)).flatMap (zo_F n G m pre)) v → zt_K sk pre.length w v → ((List.range q).filter (fun x => G.testBit x && !(zo_s pre).testBit x)).flatMap (zo_F n G m pre) = ((List.range q).filter (fun x => G.testBit x && !(zo_s pre).testBit x)).flatMap (zo_F n G m pre) → (((List.range q).filter (fun x => G.testBit x && !(zo_s pre).testBit x)).flatMap (zo_F n G m pre)).length ≤ q * 7 ^ m → (∀ l, l ∈ ((List.range q).filter (fun x => G.testBit x && !(zo_s pre).testBit x)).flatMap (zo_F n G m pre) → zs_of W l 12 ≤ F) → zm_T zc_H (D + 1) mX4_extend (zp .null (fun u => zt_J n W sk F (L ++ (zs_prm (m + 1) (zo_r n G (zo_s pre))).map (fun r => pre ++ r)) u ∧ zt_K sk pre.length w u)) 12 [(0, .ref 15), (1, .int (nI pre.length)), (2, .int (nI (zo_s pre))), (3, .long (lN (zk (zo_X W G pre) 12))), (5, .int (nI q))] [] v := by
  have hn := hc.1.1
  have hG := hc.G
  have hF := hc.F
  have hus : zo_s pre < 128 := by
    have := @Nat.and_le_right (zo_s pre) G
    omega
  intro t
  induction t with
  | zero =>
    intro q v hq hJ hK _ _ _
    obtain rfl : q = n := by omega
    have hTv := hT.keep hK
    refine gX4_extend_12 (fun _ => gX4_extend_131 ⟨rfl, ?_, hK⟩) (fun z => absurd (by rw [hTv.1]; exact Int32.le_refl _) z)
    rw [zo_all]
    exact hJ
  | succ t ih =>
    intro q v hq hJ hK _ hcnt hall
    have hTv := hT.keep hK
    have h7 : 7 ^ (m + 1) = 7 ^ m * 7 := Nat.pow_succ 7 m
    have hq7 : (q + 1) * 7 ^ m ≤ 7 * 7 ^ m := Nat.mul_le_mul_right _ (by omega)
    rw [Nat.add_mul, Nat.one_mul] at hq7
    have next := ih (q + 1)
    rw [List.range_succ, List.filter_append, List.flatMap_append] at next
    have tb : (G &&& (127 ^^^ zo_s pre)).testBit q = (G.testBit q && !(zo_s pre).testBit q) := by
      rw [Nat.testBit_and, Nat.testBit_xor, show (127 : Nat).testBit q = true by rw [show 127 = 2 ^ 7 - 1 from rfl, Nat.testBit_two_pow_sub_one]; exact decide_eq_true (by omega)]
      simp
    have hgl := zy_and_lt (y := 127 ^^^ zo_s pre) hG
    refine gX4_extend_12 (fun z => absurd z (by rw [hTv.1]; exact nI_ge (by omega) (by omega))) (fun _ => ?_)
    refine gX4_extend_21 ?_ ?_
    all_goals
      rw [hTv.2.1, zy_not hG hus]
      intro g
      rw [zy_tb (by omega) (by omega), tb] at g
    · have g1 : (G.testBit q && !(zo_s pre).testBit q) = true := by simpa using g
      have hmem : q ∈ zo_r n G (zo_s pre) := by
        rw [Bool.and_eq_true] at g1
        exact zo_r_mem.mpr ⟨by omega, g1.1, by simpa using g1.2⟩
      rw [show [q].filter (fun x => G.testBit x && !(zo_s pre).testBit x) = [q] by simp [List.filter, g1], List.flatMap_singleton, ← List.append_assoc] at next
      have hfl : (zo_F n G m pre q).length ≤ 7 ^ m := by
        unfold zo_F
        rw [List.length_map]
        refine zs_prm_count m _ ?_
        unfold zo_r
        exact Nat.le_trans (List.length_filter_le _ _) (by simp; omega)
      have hlen2 : (zo_r n G (zo_s pre ||| 2 ^ q)).length = m := by rw [← zo_r_erase hmem, List.length_erase_of_mem hmem, hlen]; rfl
      have hlF : ∀ l, l ∈ zo_F n G m pre q → zs_of W l 12 ≤ F := by
        intro l hl
        unfold zo_F at hl
        obtain ⟨r, hr, rfl⟩ := List.mem_map.mp hl
        rw [← zo_s1] at hr hlen2
        have := zo_leaf hc.1.2 m (pre ++ [q]) (by rw [zo_s1]; exact zo_sub hu hmem) hlen2 r hr
        rw [List.append_assoc] at this
        exact zo_fit hc (by simp) this
      have hsub : zo_s (pre ++ [q]) &&& G = zo_s (pre ++ [q]) := by rw [zo_s1]; exact zo_sub hu hmem
      have hset : zo_s (pre ++ [q]) < 128 := by
        have := @Nat.and_le_right (zo_s (pre ++ [q])) G
        omega
      obtain ⟨tE, tF⟩ := hTv.2.2.2 _ hsub
      rw [zy_bit q (by omega)]
      have es : nI (zo_s pre) ||| nI (2 ^ q) = nI (zo_s (pre ++ [q])) := by rw [fa_or, zo_s1]
      have x7 : ∀ l p, p < 12 → zo_X W G l p ≤ 7 := fun l p _ => by have := hc.2.1 p G; show min (W p G) _ ≤ 7; omega
      have f7 : ∀ s p, p < 12 → zpc (V p &&& s) ≤ 7 := fun s p _ => zpc_le7 _ (zy_and_lt (hc.2.2.1 p))
      refine gX4_extend_44 (by rw [es]; exact vp_in_nI (by omega) (by decide)) (by rw [es, zx_clamp (by omega), tE]; exact k_lesser (x7 pre) (fun p _ => hc.2.1 p _)) (zq_l ?_)
      rw [es, zo_XS]
      refine gX4_extend_61 (vp_in_nI (by omega) (by decide)) (by rw [zx_clamp (by omega), tF]; exact k_lesser (x7 (pre ++ [q])) (f7 _)) (zq_l ?_)
      refine gX4_extend_76 (k_total (fun p hp => by have := x7 (pre ++ [q]) p hp; show min (zo_X W G (pre ++ [q]) p) _ ≤ 7; omega)) (zq_i ?_)
      have hfb : fb_sm (fun p => min (zo_X W G (pre ++ [q]) p) (zpc (V p &&& zo_s (pre ++ [q])))) 12 ≤ 12 * 7 := fb_sm_bound (fun p hp => by have := x7 (pre ++ [q]) p hp; show min (zo_X W G (pre ++ [q]) p) _ ≤ 7; omega)
      refine gX4_extend_79 (k_isHopeless hTv.2.2.1 hJ.1 (by omega) (by omega)) (zq_i ?_)
      have hJlen : (L ++ ((List.range q).filter (fun x => G.testBit x && !(zo_s pre).testBit x)).flatMap (zo_F n G m pre)).length + 7 ^ m ≤ 10000000 := by
        rw [List.length_append]
        omega
      have hJF : ∀ l, l ∈ L ++ ((List.range q).filter (fun x => G.testBit x && !(zo_s pre).testBit x)).flatMap (zo_F n G m pre) → zs_of W l 12 ≤ F := by
        intro l hl
        rcases List.mem_append.mp hl with h1 | h1
        · exact hLF l h1
        · exact hall l h1
      have hcnt2 : (((List.range q).filter (fun x => G.testBit x && !(zo_s pre).testBit x)).flatMap (zo_F n G m pre) ++ zo_F n G m pre q).length ≤ (q + 1) * 7 ^ m := by
        rw [List.length_append, Nat.add_mul, Nat.one_mul]
        omega
      have hall2 : ∀ l, l ∈ ((List.range q).filter (fun x => G.testBit x && !(zo_s pre).testBit x)).flatMap (zo_F n G m pre) ++ zo_F n G m pre q → zs_of W l 12 ≤ F := by
        intro l hl
        rcases List.mem_append.mp hl with h1 | h1
        · exact hall l h1
        · exact hlF l h1
      refine gX4_extend_82 (fun g2 => gX4_extend_125 ?_) (fun g2 => ?_)
      · rw [nI_1]
        refine next v (by omega) (hJ.skip hlF (fun l hl => ?_) (zi_n0.mp g2)) hK rfl hcnt2 hall2
        unfold zo_F at hl
        obtain ⟨r, hr, rfl⟩ := List.mem_map.mp hl
        have := zo_floor hc (pre ++ [q]) r
        rw [List.append_assoc] at this
        exact this
      · refine hgo q _ v hmem hTv hJ (fun j hj => by rw [hK.2.2.2.1 j hj]; exact ht j hj) hJlen hJF (zi_0.mp g2) _ (fun u uJ uK => gX4_extend_125 ?_)
        rw [nI_1]
        exact next u (by omega) uJ (hK.tr uK (Nat.le_refl _)) rfl hcnt2 hall2
    · rw [show [q].filter (fun x => G.testBit x && !(zo_s pre).testBit x) = [] by simp [List.filter, g], List.flatMap_nil, List.append_nil] at next
      refine gX4_extend_41 (gX4_extend_125 ?_)
      rw [nI_1]
      exact next v (by omega) hJ hK rfl (by rw [Nat.add_mul, Nat.one_mul]; omega) hall
