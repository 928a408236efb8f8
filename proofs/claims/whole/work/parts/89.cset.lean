theorem gX7_set_26 {d : Nat} {Q : Value → zm_S → Prop} {w : zm_S} (k : Q (.int (-2 : Int32)) w) : zm_T zc_H d mX7_set Q 26 [] [] w := by
  refine zm_bipush dX7_set_26 (v := (-2 : Int32)) (by decide) ?_
  exact zm_ireturn dX7_set_28 rfl k
theorem gX7_set_29 {d : Nat} {Q : Value → zm_S → Prop} {w : zm_S} {a1 : Int32} {a2 : Int32} (hi34 : vp_in a1 4) (hi42 : vp_in a1 4) (kt : a1 = 0 → zm_T zc_H d mX7_set Q 52 [(0, .ref 0), (3, .int (w.1 1 (a1).toNatClampNeg))] [] (zm_pi w 1 (a1).toNatClampNeg a2)) (kf : ¬ a1 = 0 → zm_T zc_H d mX7_set Q 47 [(0, .ref 0), (1, .int a1), (3, .int (w.1 1 (a1).toNatClampNeg))] [] (zm_pi w 1 (a1).toNatClampNeg a2)) : zm_T zc_H d mX7_set Q 29 [(0, .ref 0), (1, .int a1), (2, .int a2)] [] w := by
  refine zm_aload_n (x := 0) 0 dX7_set_29 rfl rfl ?_
  refine zm_getf (v := .ref 1) (j := 0) dX7_set_30 clX7 flX7_9 (Nat.le_of_ble_eq_true rfl) zc_H0 rfl rfl ?_
  refine zm_iload_n (x := a1) 1 dX7_set_33 rfl rfl ?_
  refine zm_iald dX7_set_34 zc_H1 hi34 ?_
  refine zm_istore_n dX7_set_35 rfl (Nat.le_of_ble_eq_true rfl) (ls' := [(3, .int (w.1 1 (a1).toNatClampNeg)), (0, .ref 0), (1, .int a1), (2, .int a2)]) rfl ?_
  refine zm_aload_n (x := 0) 1 dX7_set_36 rfl rfl ?_
  refine zm_getf (v := .ref 1) (j := 0) dX7_set_37 clX7 flX7_9 (Nat.le_of_ble_eq_true rfl) zc_H0 rfl rfl ?_
  refine zm_iload_n (x := a1) 2 dX7_set_40 rfl rfl ?_
  refine zm_iload_n (x := a2) 3 dX7_set_41 rfl rfl ?_
  refine zm_iast dX7_set_42 zc_H1 hi42 ?_
  refine zm_iload_n (x := a1) 2 dX7_set_43 rfl rfl ?_
  refine zm_if_eq 52 dX7_set_44 (by decide) (fun h => ?_) (fun h => ?_)
  · refine zm_sub [1, 0] rfl ?_
    exact kt h
  · refine zm_sub [1, 2, 0] rfl ?_
    exact kf h
theorem gX7_set_47 {d : Nat} {Q : Value → zm_S → Prop} {w : zm_S} {a1 : Int32} {a3 : Int32} (kt : ¬ a1 = (1 : Int32) → zm_T zc_H d mX7_set Q 79 [(0, .ref 0), (3, .int a3)] [] w) (kf : a1 = (1 : Int32) → zm_T zc_H d mX7_set Q 52 [(0, .ref 0), (3, .int a3)] [] w) : zm_T zc_H d mX7_set Q 47 [(0, .ref 0), (1, .int a1), (3, .int a3)] [] w := by
  refine zm_iload_n (x := a1) 1 dX7_set_47 rfl rfl ?_
  refine zm_iconst dX7_set_48 (v := (1 : Int32)) (by decide) ?_
  refine zm_icmp_ne 79 dX7_set_49 (by decide) (fun h => ?_) (fun h => ?_)
  · refine zm_sub [0, 2] rfl ?_
    exact kt h
  · refine zm_sub [0, 2] rfl ?_
    exact kf h
theorem gX7_set_52 {d : Nat} {Q : Value → zm_S → Prop} {w : zm_S} {a3 : Int32} {Q' : Value → zm_S → Prop} (hi61 : vp_in (0 : Int32) 4) (hi67 : vp_in (1 : Int32) 4) (hC : zm_C zc_H d mX0_countAnew [.ref 2, .int (w.1 1 ((0 : Int32)).toNatClampNeg), .int (w.1 1 ((1 : Int32)).toNatClampNeg)] w Q') (k : ∀ (u : zm_S), Q' .null u → zm_T zc_H (d + 1) mX7_set Q 71 [(0, .ref 0), (3, .int a3)] [] u) : zm_T zc_H (d + 1) mX7_set Q 52 [(0, .ref 0), (3, .int a3)] [] w := by
  refine zm_aload_n (x := 0) 0 dX7_set_52 rfl rfl ?_
  refine zm_getf (v := .ref 2) (j := 1) dX7_set_53 clX7 flX7_16 (Nat.le_of_ble_eq_true rfl) zc_H0 rfl rfl ?_
  refine zm_aload_n (x := 0) 0 dX7_set_56 rfl rfl ?_
  refine zm_getf (v := .ref 1) (j := 0) dX7_set_57 clX7 flX7_9 (Nat.le_of_ble_eq_true rfl) zc_H0 rfl rfl ?_
  refine zm_iconst dX7_set_60 (v := (0 : Int32)) (by decide) ?_
  refine zm_iald dX7_set_61 zc_H1 hi61 ?_
  refine zm_aload_n (x := 0) 0 dX7_set_62 rfl rfl ?_
  refine zm_getf (v := .ref 1) (j := 0) dX7_set_63 clX7 flX7_9 (Nat.le_of_ble_eq_true rfl) zc_H0 rfl rfl ?_
  refine zm_iconst dX7_set_66 (v := (1 : Int32)) (by decide) ?_
  refine zm_iald dX7_set_67 zc_H1 hi67 ?_
  refine zm_callVv (as := [.int (w.1 1 ((0 : Int32)).toNatClampNeg), .int (w.1 1 ((1 : Int32)).toNatClampNeg)]) (rest := []) dX7_set_68 rfl mtX0_countAnew lkX7_72 zc_H2 (C := RX0) rfl rfl rfl (Nat.le_of_ble_eq_true rfl) hC rfl (fun u hq => ?_)
  exact k u hq
theorem gX7_set_71 {d : Nat} {Q : Value → zm_S → Prop} {w : zm_S} {a3 : Int32} (k : zm_T zc_H d mX7_set Q 79 [(0, .ref 0), (3, .int a3)] [] (zm_pi w 15 7 (0 : Int32))) : zm_T zc_H d mX7_set Q 71 [(0, .ref 0), (3, .int a3)] [] w := by
  refine zm_aload_n (x := 0) 0 dX7_set_71 rfl rfl ?_
  refine zm_getf (v := .ref 15) (j := 3) dX7_set_72 clX7 flX7_30 (Nat.le_of_ble_eq_true rfl) zc_H0 rfl rfl ?_
  refine zm_iconst dX7_set_75 (v := (0 : Int32)) (by decide) ?_
  refine zm_putf (j := 7) (ty := .boolean) dX7_set_76 clX4 flX7_76 (Nat.le_of_ble_eq_true rfl) zc_H15 rfl rfl (by decide +kernel) rfl (by decide) ?_
  exact k
theorem gX7_set_79 {d : Nat} {Q : Value → zm_S → Prop} {w : zm_S} {a3 : Int32} (k : Q (.int a3) (zm_pi w 23 4 (0 : Int32))) : zm_T zc_H d mX7_set Q 79 [(0, .ref 0), (3, .int a3)] [] w := by
  refine zm_aload_n (x := 0) 0 dX7_set_79 rfl rfl ?_
  refine zm_getf (v := .ref 23) (j := 4) dX7_set_80 clX7 flX7_37 (Nat.le_of_ble_eq_true rfl) zc_H0 rfl rfl ?_
  refine zm_iconst dX7_set_83 (v := (0 : Int32)) (by decide) ?_
  refine zm_putf (j := 4) (ty := .boolean) dX7_set_84 clX6 flX7_80 (Nat.le_of_ble_eq_true rfl) zc_H23 rfl rfl (by decide +kernel) rfl (by decide) ?_
  refine zm_iload_n (x := a3) 1 dX7_set_87 rfl rfl ?_
  exact zm_ireturn dX7_set_88 rfl k
/-! ===== set: behind its tests ===== -/
theorem k_set29 {d : Nat} {a : zs_A} {w : zm_S} (h : zc_P a w) {j x : Nat} (hj : j < 4) (h1 : zs_lo j ≤ x) (h2 : x ≤ zs_hi j) : zm_T zc_H (d + 3) mX7_set (zp (.int (nI (a.1 0 j))) (zc_P (zs_u a.1 0 j x, a.2))) 29 [(0, .ref 0), (1, .int (nI j)), (2, .int (nI x))] [] w := by
  have hb := zs_set_ok h.1.1.1 hj h1 h2
  obtain ⟨⟨hA, h2', h11, hs, h08, hT, h4⟩, hR, hB⟩ := h
  generalize hbe : ((zs_u a.1 0 j x, a.2) : zs_A) = b at hb ⊢
  have e0 : ∀ i, b.1 0 i = if i = j then x else a.1 0 i := fun i => by
    rw [← hbe]
    show zs_u a.1 0 j x 0 i = _
    by_cases hi : i = j
    · subst hi
      rw [zs_u_same, if_pos rfl]
    · rw [zs_u_i hi, if_neg hi]
  have ec : ∀ c, c ≠ 0 → b.1 c = a.1 c := fun c hc => by
    rw [← hbe]
    exact funext fun i => zs_u_c hc
  have e2 : b.2 = a.2 := by rw [← hbe]
  have hcl : (nI j).toNatClampNeg = j := zx_clamp (by omega)
  have s0 : ∀ i, i < 4 → (zm_pi w 1 j (nI x)).1 1 i = nI (b.1 0 i) := fun i hi => by
    rw [zm_pa_at, e0]
    by_cases hi2 : i = j
    · subst hi2
      rw [if_pos rfl, upd, if_pos rfl]
    · rw [if_neg hi2, upd, if_neg hi2]
      exact hs i hi
  have tl : ∀ u : zm_S, zc_A b u → zc_2 b u → u.1 2 11 = nI (b.1 0 1) → (∀ k, k ≠ 2 → k < 7 ∨ 10 < k → k ≠ 15 → u.1 k = (zm_pi w 1 j (nI x)).1 k) → zc_R b u → zm_T zc_H (d + 3) mX7_set (zp (.int (nI (a.1 0 j))) (zc_P b)) 79 [(0, .ref 0), (3, .int (nI (a.1 0 j)))] [] u := by
    intro u uA u2 u11 uk uR
    have kk : ∀ k, k ≠ 23 → (zm_pi u 23 4 0).1 k = u.1 k := fun k h => zm_pa_ne h
    refine gX7_set_79 ⟨rfl, ⟨uA.keep (fun k hk => kk k (by omega)), u2.keep (fun k _ hk => kk k (by omega)), ?_, ?_, ?_, ?_, ?_⟩, uR.keep (fun k _ hk => kk k (by omega)) rfl, Or.inl ?_⟩
    · rw [kk 2 (by decide)]
      exact u11
    · intro i hi
      rw [kk 1 (by decide), uk 1 (by decide) (by decide) (by decide)]
      exact s0 i hi
    · rw [kk 0 (by decide), uk 0 (by decide) (by decide) (by decide), zm_pa_ne (by decide), ec 10 (by decide)]
      exact h08
    · exact (hT.cong (b := b) (by rw [ec 6 (by decide)]) (ec 7 (by decide)).symm).keep (fun k x y => by rw [kk k (by omega), uk k (by omega) (by omega) (by omega), zm_pa_ne (by omega)])
    · exact (h4.cong (b := b) (ec 8 (by decide)).symm (ec 9 (by decide)).symm e2.symm).keep (fun k x => by rw [kk k (by omega), uk k (by omega) (by omega) (by omega), zm_pa_ne (by omega)])
    · rw [zm_pa_at, pk_us]
  have h20 : zc_2 b (zm_pi w 1 j (nI x)) := (h2'.cong (b := b) (by rw [ec 1 (by decide)]) (ec 2 (by decide)).symm (ec 3 (by decide)).symm (ec 4 (by decide)).symm (ec 5 (by decide)).symm).keep (fun k _ hk => zm_pa_ne (by omega))
  have cnt : zm_T zc_H (d + 3) mX7_set (zp (.int (nI (a.1 0 j))) (zc_P b)) 52 [(0, .ref 0), (3, .int (nI (a.1 0 j)))] [] (zm_pi w 1 j (nI x)) := by
    have i0 : ((0 : Int32)).toNatClampNeg = 0 := by decide
    have i1 : ((1 : Int32)).toNatClampNeg = 1 := by decide
    refine gX7_set_52 (vp_in_nI (n := 0) (by decide) (by decide)) (vp_in_nI (n := 1) (by decide) (by decide)) (by rw [i0, i1, s0 0 (by decide), s0 1 (by decide)]; exact k_countAnew hb h20) (zp_v (fun u hu => gX7_set_71 ?_))
    obtain ⟨uA, u2, u11, uk, ul⟩ := hu
    exact tl (zm_pi u 15 7 0) (uA.keep (fun k hk => zm_pa_ne (by omega))) (u2.keep (fun k _ hk => zm_pa_ne (by omega))) (by rw [zm_pa_ne (by decide)]; exact u11) (fun k k2 k7 k15 => by rw [zm_pa_ne k15, uk k k2 k7]) (Or.inl (by rw [zm_pa_at, pk_us]))
  refine gX7_set_29 (vp_in_nI hj (by decide)) (vp_in_nI hj (by decide)) (fun _ => ?_) (fun g => ?_)
  · rw [hcl, hs j hj]
    exact cnt
  · rw [hcl, hs j hj]
    refine gX7_set_47 (fun g1 => ?_) (fun _ => cnt)
    have hj0 : j ≠ 0 := fun q => g (by rw [q]; rfl)
    have hj1 : j ≠ 1 := fun q => g1 (by rw [q]; rfl)
    have hn : b.1 0 0 = a.1 0 0 := by rw [e0, if_neg (by omega)]
    have eS : zs_S a = zs_S b := zs_S_cong (by rw [e0, if_neg (by omega)]) (by rw [ec 1 (by decide)]) (ec 2 (by decide)).symm (ec 3 (by decide)).symm (ec 4 (by decide)).symm (ec 5 (by decide)).symm
    refine tl _ ⟨hb, ?_, ?_, ?_⟩ h20 ?_ (fun _ _ _ _ => rfl) ((hR.cong eS hn.symm).keep (fun k _ hk => zm_pa_ne (by omega)) rfl)
    · rw [zm_pa_ne (by decide), hn]
      exact hA.2.1
    · rw [zm_pa_ne (by decide), hn]
      exact hA.2.2.1
    · rw [← eS]
      exact ⟨fun p hp => by rw [zm_pa_ne (by decide), zm_pa_ne (by decide)]; exact hA.2.2.2.1 p hp, fun q hq => by rw [zm_pa_ne (by decide), zm_pa_ne (by decide)]; exact hA.2.2.2.2 q hq⟩
    · rw [zm_pa_ne (by decide), e0, if_neg (by omega)]
      exact h11
/-! ===== a call of a static method, where something of the start is known besides ===== -/
theorem zw_callSz {SH : List zm_H} {d : Nat} {M N : zm_M} {pc idx n : Nat} {as rest st : List Value} {w : zm_S} {Q' : Value → zm_S → Prop} {l : Launch} {D : va_G} {ca : FieldType → ClassId} {ad : Nat → Nat} {p : Program} {e : Env} {s : State} {m : MethodId} {args : Array Value} {below : List Frame} {meth : Method} {c : Code} {H : Heap} {locs : List Loc} {la : Array Slot} {Z : State → Prop}
    (hX : zm_X M D ca p s m args meth c) (hY : zm_Y SH D ca ad w (zm_A SH ad s.heap.size) s.heap H locs) (hl : la.size = M.2.2.2.1) (hdg : decode M.2.2.1 pc = .ok (.invokestatic idx, 3)) (hst : st = as.reverse ++ rest) (hN : zm_Ms N n) (hlk : Cond.methodLink M.1 idx N.2.1 ∈ zm_tb) (hn : as.length = n) (hrm : (rest.map fun v => v.category).sum ≤ 8) (hC : zm_C SH d N as w Q') (hr : N.2.2.2.2 = some .boolean)
    (k : ∀ (r : Int32) (u : zm_S) (H1 : Heap) (locs1 : List Loc), Q' (.int r) u → zm_Y SH D ca ad u (zm_A SH ad s.heap.size) s.heap H1 locs1 → W p l e (zm_R (d + 1)) s m args below meth c H1 locs1 0 0 Z (F0 m (pc + 3) la (.int r :: zm_st ad rest))) : W p l e (zm_R (d + 1)) s m args below meth c H locs 0 0 Z (F0 m pc la (zm_st ad st)) := by
  have hsub : ∀ q, zm_A SH ad H.size q → zm_A SH ad s.heap.size q := fun q h => h.elim (fun h => Or.inl h) (fun h => Or.inr (Nat.le_trans hY.2.2.1 h))
  have hrun := va_runS (As := zm_st ad as) (rest := zm_st ad rest) ⟨hX.1, hX.2.1, hX.2.2.1, hX.2.2.2.2.2.1, hX.2.2.2.2.2.2.1⟩ (hC l D ca ad H.size) ⟨zm_cB hN.1 hlk hX.2.2.2.2.2.2.1, hX.2.2.2.2.2.2.1 _ hN.2⟩ ⟨zm_blind, fun U hU hW => ⟨rfl, by rw [hU], by rw [hU]; exact hY.1, va_K.moved hW.alike hX.2.2.2.2.2.2.2.2, hY.2.1.weaken (fun _ _ _ _ => trivial), zm_nt_warm hW hX.2.2.2.2.2.2.2.1⟩⟩ rfl (by rw [zm_st, List.length_map]; exact hn) hl (by rw [hst, zm_st_app, zm_st_rev]) (lv_room (by rw [zm_st_cat]; exact hrm)) hdg ⟨Nat.le_refl _, Nat.le_refl _⟩ (g := F0 m pc la (zm_st ad st)) (p := p) (e := e) (below := below) (meth := meth) (locs := locs) (cells := 0) (slots := 0)
  have hqq : zm_Q SH D ca ad N.2.2.2.2 Q' (zm_A SH ad H.size) = va_Qi (fun r u => Q' (.int r) u) (zm_B SH D ca ad (zm_A SH ad H.size)) (zm_A SH ad H.size) := by rw [hr]; rfl
  rw [hqq] at hrun
  refine va_calli hrun hY.2.2 (fun q _ h => hsub q h) hsub (fun r u t H1 locs1 ht hvm hpost hB hz1 hk1 hS1 => ?_)
  obtain ⟨hP1, hK1, hD1⟩ := hB
  exact k r u H1 locs1 hpost ⟨by rw [← ht]; exact hP1, zm_D_self hD1, hS1⟩
/-- the two tables that set looks at, where they stand at a start -/
def zs_Z (A : Nat → Prop) (U : State) (H : Heap) : Prop := ∃ t1 t2 : Nat, va_Z RX7 "LEAST_SETTING" "[I" (.ref t1) A U H ∧ va_T .int t1 4 (fun j => .int (nI (zs_lo j))) A U H ∧ va_Z RX7 "MOST_SETTING" "[I" (.ref t2) A U H ∧ va_T .int t2 4 (fun j => .int (nI (zs_hi j))) A U H
theorem zs_Z.moved {A : Nat → Prop} {u U : State} {H : Heap} (hvm : u.vm.Alike U.vm) (h : zs_Z A u H) : zs_Z A U H := by
  obtain ⟨t1, t2, a1, a2, a3, a4⟩ := h
  exact ⟨t1, t2, a1.moved hvm, a2.moved hvm, a3.moved hvm, a4.moved hvm⟩
theorem zs_Z.kept {A : Nat → Prop} {U : State} {H H1 : Heap} (h : zs_Z A U H) (hq : ∀ a : Nat, a < H.size → ¬ A a → H1[a]? = H[a]?) : zs_Z A U H1 := by
  obtain ⟨t1, t2, a1, a2, a3, a4⟩ := h
  exact ⟨t1, t2, a1.kept hq, a2.kept hq, a3.kept hq, a4.kept hq⟩
theorem zs_Z.narrow {A B : Nat → Prop} {U : State} {H : Heap} (h : zs_Z A U H) (hAB : ∀ q, B q → A q) : zs_Z B U H := by
  obtain ⟨t1, t2, a1, a2, a3, a4⟩ := h
  exact ⟨t1, t2, a1.narrow hAB, a2.narrow hAB, a3.narrow hAB, a4.narrow hAB⟩
/-- what the caller of set gives, besides the places -/
def zm_Ps (D : va_G) (ca : FieldType → ClassId) (ad : Nat → Nat) (w : zm_S) (sz : Nat) (U : State) : Prop := (U.heap.size = sz ∧ va_P D vwCl (zm_W zc_H ca ad w) U.heap ∧ va_K D vwCl (zm_ty ca) U ∧ va_D (fun _ => True) (zm_W zc_H ca ad w) ∧ ∀ z ∈ zm_nt, va_Nw z U) ∧ zs_Z (zm_A zc_H ad sz) U U.heap
theorem c_set {d : Nat} {a : zs_A} {w : zm_S} (h : zc_P a w) (k x : Int32) (l : Launch) (D : va_G) (ca : FieldType → ClassId) (ad : Nat → Nat) (sz : Nat) : Met l mX7_set.2.1 (Cond.code mX7_set.2.1 mX7_set.2.2.1 mX7_set.2.2.2.1 mX7_set.2.2.2.2 :: zm_tb) (zm_R (d + 3)) (va_Pc (zm_st ad [.ref 0, .int k, .int x]) (zm_Ps D ca ad w sz)) (zm_Q zc_H D ca ad mX7_set.2.2.2.2 (zp (.int (zs_set a k x).1) (zc_P (zs_set a k x).2)) (zm_A zc_H ad sz)) 0 0 (zm_A zc_H ad sz) := by
  refine Met.ofW (cc := mX7_set.2.2.1) (maxL := mX7_set.2.2.2.1) (ret := mX7_set.2.2.2.2) mtX7_set.1.2.2.2.2.2.2 rfl ?_
  intro p e s m args below meth c s₁ B hml hv
  obtain ⟨rfl, ⟨hsz, hP, hK, hD0, hN⟩, t1, t2, z1, v1, z2, v2⟩ := hv
  have hts := atoms_spec (ws := Cond.code mX7_set.2.1 mX7_set.2.2.1 mX7_set.2.2.2.1 mX7_set.2.2.2.2 :: zm_tb) B.pre
  have ho : s.vm.findClass RX7 = some m.cls := findClass_of_methodNamed B.named
  subst hsz
  have hl := lv_entry (zm_st ad [.ref 0, .int k, .int x]) (n := mX7_set.2.2.2.1) (Nat.le_of_ble_eq_true rfl)
  rw [lg_entry_eq]
  generalize (lg_sl (zm_st ad [.ref 0, .int k, .int x]) ++ List.replicate (mX7_set.2.2.2.1 - (lg_sl (zm_st ad [.ref 0, .int k, .int x])).length) Slot.unset).toArray = la at hl ⊢
  have hl : lv_has la 4 (zm_ls ad [(0, .ref 0), (1, .int k), (2, .int x)]) := hl
  have hX : zm_X mX7_set D ca p s m (zm_st ad [.ref 0, .int k, .int x]).toArray meth c := ⟨B.exec, B.bytes, hml, B.returns, B.notSynchronized, ho, fun z hz => hts z (List.mem_cons_of_mem _ hz), hN, hK⟩
  have hY : zm_Y zc_H D ca ad w (zm_A zc_H ad s.heap.size) s.heap s.heap [] := ⟨hP, zm_D_self hD0, va_S.rf⟩
  have bad : ∀ (H : Heap) (locs : List Loc), ¬ ((0 ≤ k ∧ k < 4) ∧ nI (zs_lo k.toNatClampNeg) ≤ x ∧ x ≤ nI (zs_hi k.toNatClampNeg)) → zm_Y zc_H D ca ad w (zm_A zc_H ad s.heap.size) s.heap H locs → W p l e (zm_R (d + 3)) s m (zm_st ad [.ref 0, .int k, .int x]).toArray below meth c H locs 0 0 (MQ below (zm_Q zc_H D ca ad mX7_set.2.2.2.2 (zp (.int (zs_set a k x).1) (zc_P (zs_set a k x).2)) (zm_A zc_H ad s.heap.size)) (zm_st ad [.ref 0, .int k, .int x]).toArray s 0 0 (zm_A zc_H ad s.heap.size)) (F0 m 26 la []) := fun H locs hb hY => by
    rw [zs_set, if_neg hb]
    exact gX7_set_26 (d := d + 3) (w := w) ⟨rfl, h⟩ l D ca ad p e s m _ below meth c H locs la hX hY (lv_sub hl [] rfl)
  have hx := hX.1
  have hb := hX.2.1
  refine lv_iload_n hx hb dX7_set_0 rfl (lv_at hl 1 rfl) ?_
  refine lv_iconst (v := 4) hx hb dX7_set_1 (by decide) ?_
  refine zw_callSz (SH := zc_H) (d := d + 2) (st := [.int 4, .int k]) (as := [.int k, .int 4]) (rest := []) hX hY hl.1 dX7_set_2 rfl mtX7_within lkX7_62 rfl (Nat.le_of_ble_eq_true rfl) (k_within k 4) rfl (fun r u H locs hq hYn => ?_)
  obtain ⟨hr, rfl⟩ := hq
  cases hr
  refine lv_if_eq (tgt := 26) hx hb dX7_set_5 (by decide) (fun g => bad H locs (fun q => zi_0.mp g q.1) hYn) (fun g => ?_)
  have hk := zi_n0.mp g
  have hki : vp_in k 4 := (zx_in (n := 4) (by decide)).mpr hk
  have hS := hYn.2.2
  refine lv_iload_n hx hb dX7_set_8 rfl (lv_at hl 2 rfl) ?_
  refine va_gets hx hb z1 hS ho (hX.2.2.2.2.2.2.1 _ (show Cond.fieldLink RX7 66 "EasyToHard" "LEAST_SETTING" "[I" ∈ zm_tb from (zm_in 387 rfl rfl))) (fun _ h => h) dX7_set_9 ?_
  refine lv_iload_n hx hb dX7_set_12 rfl (lv_at hl 1 rfl) ?_
  refine va_ti (v := .int (nI (zs_lo k.toNatClampNeg))) hx hb v1 hS hki rfl dX7_set_13 ?_
  refine lv_icmp_lt (tgt := 26) hx hb dX7_set_14 (by decide) (fun g1 => bad H locs (fun q => Int32.not_lt.mpr q.2.1 g1) hYn) (fun g1 => ?_)
  refine lv_iload_n hx hb dX7_set_17 rfl (lv_at hl 2 rfl) ?_
  refine va_gets hx hb z2 hS ho (hX.2.2.2.2.2.2.1 _ (show Cond.fieldLink RX7 69 "EasyToHard" "MOST_SETTING" "[I" ∈ zm_tb from (zm_in 389 rfl rfl))) (fun _ h => h) dX7_set_18 ?_
  refine lv_iload_n hx hb dX7_set_21 rfl (lv_at hl 1 rfl) ?_
  refine va_ti (v := .int (nI (zs_hi k.toNatClampNeg))) hx hb v2 hS hki rfl dX7_set_22 ?_
  refine lv_icmp_le (tgt := 29) hx hb dX7_set_23 (by decide) (fun g2 => ?_) (fun g2 => bad H locs (fun q => g2 q.2.2) hYn)
  have g1' := Int32.not_lt.mp g1
  rw [zs_set, if_pos ⟨hk, g1', g2⟩]
  obtain ⟨j, hj, rfl⟩ := zx_of (n := 4) hk (by decide)
  have hjc : (nI j).toNatClampNeg = j := zx_clamp (by omega)
  rw [hjc] at g1' g2
  have hlo : zs_lo j ≤ 2 := by unfold zs_lo; split <;> omega
  have hhi : zs_hi j ≤ 999 := by unfold zs_hi; split <;> (try split) <;> (try split) <;> omega
  obtain ⟨y, hy, rfl⟩ := zx_ofle (n := zs_hi j) ⟨Int32.le_trans (nI_pos' (by omega)) g1', g2⟩ (by omega)
  have hyc : (nI y).toNatClampNeg = y := zx_clamp (by omega)
  have hlow : zs_lo j ≤ y := (nI_leI (by omega) (by omega)).mp g1'
  rw [hjc, hyc]
  exact k_set29 h hj hlow hy l D ca ad p e s m _ below meth c H locs la hX hYn hl
