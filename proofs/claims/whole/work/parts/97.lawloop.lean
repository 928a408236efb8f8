def zl_tg : List Nat := [188, 221, 274, 317, 350, 373, 386, 399, 442, 475, 498, 521, 554, 577, 611, 624, 657, 680, 703, 736, 769, 782, 805, 848, 912, 976, 1019, 1052, 1095, 1118, 1171, 1214, 1277, 1300, 1323]
theorem zl_off : ∀ j, j < 35 → (#[155, 188, 241, 284, 317, 340, 353, 366, 409, 442, 465, 488, 521, 544, 578, 591, 624, 647, 670, 703, 736, 749, 772, 815, 879, 943, 986, 1019, 1062, 1085, 1138, 1181, 1244, 1267, 1290] : Array Int)[j]? = some (((zl_tg.getD j 0 : Nat) : Int) - 33) := by decide +kernel
theorem zl_sub6 : ∀ n, n < 385 → (Int32.ofNat n - 6).toInt = (n : Int) - 6 := by decide +kernel
section ZLL
variable {l : Launch} {p : Program} {e : Env} {s : State} {m : MethodId} {below : List Frame} {meth : Method} {c : Code} {b L : Nat} {xs : Nat → Int32} {D : va_G} {ca : FieldType → ClassId} {ad1 ad2 : Nat → Nat} {i : Int32} {w v : zm_S} {a : zs_A}
theorem zl_sw {x : Int32} (hG : zl_G p s m meth c b L xs D ca ad1 ad2) (kd : zl_T l p e s m below meth c b D ca ad1 ad2 1337 i [] w v) (kc : ∀ j, j < 35 → zl_T l p e s m below meth c b D ca ad1 ad2 (zl_tg.getD j 0) i [] w v) : zl_T l p e s m below meth c b D ca ad1 ad2 33 i [.int x] w v := by
  intro H locs la hP hP' hS hl
  by_cases h1 : x.toInt < 0 ∨ 34 < x.toInt
  · exact lv_tableOut (tgt := 1337) hG.1.1 hG.1.2.1 dL_law_33 h1 (by decide) (kd H locs la hP hP' hS hl)
  · obtain ⟨j, hj⟩ : ∃ j : Nat, x.toInt = j := ⟨x.toInt.toNat, by omega⟩
    have hj35 : j < 35 := by omega
    have e1 : (x.toInt - 0).toNat = j := by omega
    exact lv_tableIn (tgt := zl_tg.getD j 0) hG.1.1 hG.1.2.1 dL_law_33 (by omega) (by omega) (by rw [e1]; exact zl_off j hj35) (by omega) (kc j hj35 H locs la hP hP' hS hl)
theorem zl_18 {j : Nat} (hG : zl_G p s m meth c b L xs D ca ad1 ad2) (hL : L ≤ 384) (hj : 6 * j ≤ L) (kb : 6 * j + 6 ≤ L → zl_T l p e s m below meth c b D ca ad1 ad2 33 (nI (6 * j)) [.int (xs (nI (6 * j)).toNatClampNeg &&& 63)] w v) : zl_T l p e s m below meth c b D ca ad1 ad2 18 (nI (6 * j)) [] w v := by
  intro H locs la hP hP' hS hl
  obtain ⟨hx, hb, hr, hml, hown, hts, hXs, hbl0, hlocks, hgv⟩ := hG.1
  refine lv_iload_n hx hb dL_law_18 rfl (lv_at hl 0 rfl) ?_
  refine lv_aload_n hx hb dL_law_19 rfl (lv_at hl 3 rfl) ?_
  refine va_slen hx hb hXs hbl0 (zl_bA hbl0) hS dL_law_20 ?_
  refine lv_bipush (v := 6) hx hb dL_law_21 (by decide) ?_
  refine lv_isub hx hb dL_law_23 ?_
  refine lv_icmp_gt (tgt := 1343) hx hb dL_law_24 (by decide) (fun g => ?_) (fun g => ?_)
  · refine lv_iconst (v := 1) hx hb dL_law_1343 (by decide) ?_
    refine va_forget hS.2.2 ?_
    refine W.widen (k := 600000) (n := 7302250) (Nat.le_of_ble_eq_true rfl) (Nat.le_of_ble_eq_true rfl) ?_
    exact lw_ret hx hb hr hlocks dL_law_1344
  · have g2 : 6 * j + 6 ≤ L := by
      have g3 := Int32.not_lt.mp g
      rw [fa_le, zl_sub6 L (by omega), nI_toInt (by omega)] at g3
      omega
    refine lv_aload_n hx hb dL_law_27 rfl (lv_at hl 3 rfl) ?_
    refine lv_iload_n hx hb dL_law_28 rfl (lv_at hl 0 rfl) ?_
    refine va_sld hx hb hXs hbl0 (zl_bA hbl0) hS (vp_in_nI (by omega) (by omega)) dL_law_29 ?_
    refine lv_bipush (v := 63) hx hb dL_law_30 (by decide) ?_
    refine lv_iand hx hb dL_law_32 ?_
    exact kb g2 H locs la hP hP' hS hl
theorem zl_1337 {j : Nat} (hG : zl_G p s m meth c b L xs D ca ad1 ad2) (kk : zl_T l p e s m below meth c b D ca ad1 ad2 18 (nI (6 * (j + 1))) [] w v) : zl_T l p e s m below meth c b D ca ad1 ad2 1337 (nI (6 * j)) [] w v := by
  intro H locs la hP hP' hS hl
  refine lv_iinc (v := nI (6 * (j + 1))) (lv' := [(3, .int (nI (6 * (j + 1)))), (2, .ref (ad2 0)), (1, .ref (ad1 0)), (0, .ref b)]) hG.1.1 hG.1.2.1 dL_law_1337 hl (k := 0) rfl ?_ (by decide) rfl (fun la hl => ?_)
  · show nI (6 * j) + nI 6 = nI (6 * (j + 1))
    rw [nI_add]
    rfl
  · exact lv_goto (tgt := 18) hG.1.1 hG.1.2.1 dL_law_1340 (by decide) (kk H locs la hP hP' hS hl)
set_option maxHeartbeats 1000000 in
theorem zl_loop (hG : zl_G p s m meth c b L xs D ca ad1 ad2) (hL : L ≤ 384) : ∀ (f j : Nat) (a : zs_A) (w v : zm_S), 6 * j ≤ L → L < 6 * j + 6 * f → zc_P a w → zd_P a v → zl_T l p e s m below meth c b D ca ad1 ad2 18 (nI (6 * j)) [] w v
  | 0, j, a, w, v, h1, h2, _, _ => by omega
  | f + 1, j, a, w, v, h1, h2, h, h' => by
    refine zl_18 hG hL h1 (fun h6 => ?_)
    have K : ∀ (a' : zs_A) (w' v' : zm_S), zc_P a' w' → zd_P a' v' → zl_T l p e s m below meth c b D ca ad1 ad2 1337 (nI (6 * j)) [] w' v' := fun a' w' v' q q' => zl_1337 hG (zl_loop hG hL f (j + 1) a' w' v' (by omega) (by omega) q q')
    have hin : ∀ k, k < 6 → vp_in (nI (6 * j) + nI k) L := fun k hk => by
      rw [nI_add]
      exact vp_in_nI (by omega) (by omega)
    have i1 : vp_in (nI (6 * j) + 1) L := hin 1 (by decide)
    have i2 : vp_in (nI (6 * j) + 2) L := hin 2 (by decide)
    have i3 : vp_in (nI (6 * j) + 3) L := hin 3 (by decide)
    have i4 : vp_in (nI (6 * j) + 4) L := hin 4 (by decide)
    have i5 : vp_in (nI (6 * j) + 5) L := hin 5 (by decide)
    refine zl_sw hG (K a w v h h') (fun k hk => ?_)
    match k, hk with
    | 0, _ => exact zl_c0 hG h h' i1 i2 i3 i4 i5 K
    | 1, _ => exact zl_c1 hG h h' i1 i2 i3 i4 i5 K
    | 2, _ => exact zl_c2 hG h h' i1 i2 i3 i4 i5 K
    | 3, _ => exact zl_c3 hG h h' i1 i2 i3 i4 i5 K
    | 4, _ => exact zl_c4 hG h h' i1 i2 i3 i4 i5 K
    | 5, _ => exact zl_c5 hG h h' i1 i2 i3 i4 i5 K
    | 6, _ => exact zl_c6 hG h h' i1 i2 i3 i4 i5 K
    | 7, _ => exact zl_c7 hG h h' i1 i2 i3 i4 i5 K
    | 8, _ => exact zl_c8 hG h h' i1 i2 i3 i4 i5 K
    | 9, _ => exact zl_c9 hG h h' i1 i2 i3 i4 i5 K
    | 10, _ => exact zl_c10 hG h h' i1 i2 i3 i4 i5 K
    | 11, _ => exact zl_c11 hG h h' i1 i2 i3 i4 i5 K
    | 12, _ => exact zl_c12 hG h h' i1 i2 i3 i4 i5 K
    | 13, _ => exact zl_c13 hG h h' i1 i2 i3 i4 i5 K
    | 14, _ => exact zl_c14 hG h h' i1 i2 i3 i4 i5 K
    | 15, _ => exact zl_c15 hG h h' i1 i2 i3 i4 i5 K
    | 16, _ => exact zl_c16 hG h h' i1 i2 i3 i4 i5 K
    | 17, _ => exact zl_c17 hG h h' i1 i2 i3 i4 i5 K
    | 18, _ => exact zl_c18 hG h h' i1 i2 i3 i4 i5 K
    | 19, _ => exact zl_c19 hG h h' i1 i2 i3 i4 i5 K
    | 20, _ => exact zl_c20 hG h h' i1 i2 i3 i4 i5 K
    | 21, _ => exact zl_c21 hG h h' i1 i2 i3 i4 i5 K
    | 22, _ => exact zl_c22 hG h h' i1 i2 i3 i4 i5 K
    | 23, _ => exact zl_c23 hG h h' i1 i2 i3 i4 i5 K
    | 24, _ => exact zl_c24 hG h h' i1 i2 i3 i4 i5 K
    | 25, _ => exact zl_c25 hG h h' i1 i2 i3 i4 i5 K
    | 26, _ => exact zl_c26 hG h h' i1 i2 i3 i4 i5 K
    | 27, _ => exact zl_c27 hG h h' i1 i2 i3 i4 i5 K
    | 28, _ => exact zl_c28 hG h h' i1 i2 i3 i4 i5 K
    | 29, _ => exact zl_c29 hG h h' i1 i2 i3 i4 i5 K
    | 30, _ => exact zl_c30 hG h h' i1 i2 i3 i4 i5 K
    | 31, _ => exact zl_c31 hG h h' i1 i2 i3 i4 i5 K
    | 32, _ => exact zl_c32 hG h h' i1 i2 i3 i4 i5 K
    | 33, _ => exact zl_c33 hG h h' i1 i2 i3 i4 i5 K
    | 34, _ => exact zl_c34 hG h h' i1 i2 i3 i4 i5 K
    | k + 35, hk => exact absurd hk (by omega)
end ZLL
