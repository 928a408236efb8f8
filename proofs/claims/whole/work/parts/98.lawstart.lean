/-! ===== a new object, in the document's state ===== -/
def zs_0 : zs_A := (fun c i => if c = 0 then (if i = 0 then 5 else if i = 1 then 999 else 0) else 0, fun _ _ => 0)
theorem zs_0_ok : zs_ok zs_0 := ⟨by decide, ⟨by decide, fun k hk => absurd hk (Nat.not_lt_zero k), fun k hk => absurd hk (Nat.not_lt_zero _)⟩, ⟨by decide, fun k hk => absurd hk (Nat.not_lt_zero k)⟩, fun s _ => ⟨show 0 ≤ 3 by decide, show 0 ≤ 60 by decide⟩, by decide⟩
theorem zd_P0 : zd_P zs_0 zd_w0 := by
  refine ⟨zs_0_ok, ?_, ⟨rfl, fun k hk => absurd hk (Nat.not_lt_zero k)⟩, ⟨rfl, fun k hk => absurd hk (Nat.not_lt_zero k)⟩, ?_, rfl⟩
  · intro i hi
    rcases (show i = 0 ∨ i = 1 ∨ i = 2 ∨ i = 3 by omega) with rfl | rfl | rfl | rfl <;> decide
  · intro s hs
    refine ⟨?_, rfl, fun h => absurd rfl h⟩
    rcases (show s = 0 ∨ s = 1 ∨ s = 2 ∨ s = 3 by omega) with rfl | rfl | rfl | rfl <;> decide
theorem zc_F0 : zc_F (zs_S zs_0) zc_w0 := by
  have hS : zs_S zs_0 = fun _ _ => 2 := rfl
  rw [hS]
  have e1 : ∀ p, zs_sb (fun _ _ => 2) 1 p = 0 := fun p => show zb (fun _ => decide (2 = 1)) 7 = 0 by decide
  have e0 : ∀ p, zs_sb (fun _ _ => 2) 0 p = 0 := fun p => show zb (fun _ => decide (2 = 0)) 7 = 0 by decide
  have f1 : ∀ q, zs_sw2 (fun _ _ => 2) 1 q = 0 := fun q => show zb (fun _ => decide (2 = 1)) 12 = 0 by decide
  have f0 : ∀ q, zs_sw2 (fun _ _ => 2) 0 q = 0 := fun q => show zb (fun _ => decide (2 = 0)) 12 = 0 by decide
  exact ⟨fun p _ => ⟨by rw [e1]; rfl, by rw [e0]; rfl⟩, fun q _ => ⟨by rw [f1]; rfl, by rw [f0]; rfl⟩⟩
theorem zc_P0 : zc_P zs_0 zc_w0 := by
  refine ⟨⟨⟨zs_0_ok, rfl, rfl, zc_F0⟩, ⟨rfl, fun k hk => absurd hk (Nat.not_lt_zero k)⟩, rfl, ?_, rfl, ⟨⟨rfl, fun k hk => absurd hk (Nat.not_lt_zero k)⟩, rfl, rfl, fun q _ => rfl⟩, ?_⟩, Or.inl rfl, Or.inl rfl⟩
  · intro i hi
    rcases (show i = 0 ∨ i = 1 ∨ i = 2 ∨ i = 3 by omega) with rfl | rfl | rfl | rfl <;> decide
  · intro s hs
    refine ⟨?_, ?_, fun h => absurd rfl h⟩
    · rcases (show s = 0 ∨ s = 1 ∨ s = 2 ∨ s = 3 by omega) with rfl | rfl | rfl | rfl <;> rfl
    · rcases (show s = 0 ∨ s = 1 ∨ s = 2 ∨ s = 3 by omega) with rfl | rfl | rfl | rfl <;> rfl
section ZLS
variable {l : Launch} {p : Program} {e : Env} {s : State} {m : MethodId} {below : List Frame} {meth : Method} {c : Code} {b L : Nat} {xs : Nat → Int32}
theorem zl_tb (C0 : lw_At p s m meth c b L xs) : ∀ z ∈ zm_tb, z.before #[Value.ref b] s = true := fun z hz => C0.2.2.2.2.2.1 z (List.mem_filter.mp hz).1
set_option maxRecDepth 100000 in
theorem zl_lo (C0 : lw_At p s m meth c b L xs) : ∃ t : Nat, va_Z RX7 "LEAST_SETTING" "[I" (.ref t) (zl_A s) s s.heap ∧ va_T .int t 4 (fun j => .int (nI (zs_lo j))) (zl_A s) s s.heap := by
  obtain ⟨hx, hb, hr, hml, hown, hts, hXs, hbl0, hlocks, hgv⟩ := C0
  have hs := flat_of_before _ hgv
  have hlen : (Term.length (.static "EasyToHard" "LEAST_SETTING" "[I")).eval #[Value.ref b] s none [] s = some (.int (Int32.ofNat 4)) := va_eqt (z := 4) (hs (Cond.eq (.length (.static "EasyToHard" "LEAST_SETTING" "[I")) (.int 4)) (by decide +kernel))
  have hel : ∀ j : Nat, j < 4 → (Term.elem (.static "EasyToHard" "LEAST_SETTING" "[I") (.int (Int32.ofNat j))).eval #[Value.ref b] s none [] s = some (.int (nI (zs_lo j))) := fun j hj => match j, hj with
    | 0, _ => va_eqt (z := 2) (hs (Cond.eq (.elem (.static "EasyToHard" "LEAST_SETTING" "[I") (.int 0)) (.int 2)) (by decide +kernel))
    | 1, _ => va_eqt (z := 0) (hs (Cond.eq (.elem (.static "EasyToHard" "LEAST_SETTING" "[I") (.int 1)) (.int 0)) (by decide +kernel))
    | 2, _ => va_eqt (z := 0) (hs (Cond.eq (.elem (.static "EasyToHard" "LEAST_SETTING" "[I") (.int 2)) (.int 0)) (by decide +kernel))
    | 3, _ => va_eqt (z := 0) (hs (Cond.eq (.elem (.static "EasyToHard" "LEAST_SETTING" "[I") (.int 3)) (.int 0)) (by decide +kernel))
    | j + 4, hj => absurd hj (by omega)
  obtain ⟨t, h1, h2⟩ := va_Tof (A := zl_A s) (ty := .int) (N := 4) (f := fun j => .int (nI (zs_lo j))) (by decide) (hs (Cond.arrayOf (.static "EasyToHard" "LEAST_SETTING" "[I") .int) (by decide +kernel)) hlen hel (fun a ha => Nat.not_le.mpr ha)
  exact ⟨t, va_Zref (hts _ (List.mem_of_getElem? (i := 388) rfl)) (hts _ (List.mem_of_getElem? (i := 79) rfl)) h1 (fun a ha => Nat.not_le.mpr ha), h2⟩
set_option maxRecDepth 100000 in
theorem zl_hi (C0 : lw_At p s m meth c b L xs) : ∃ t : Nat, va_Z RX7 "MOST_SETTING" "[I" (.ref t) (zl_A s) s s.heap ∧ va_T .int t 4 (fun j => .int (nI (zs_hi j))) (zl_A s) s s.heap := by
  obtain ⟨hx, hb, hr, hml, hown, hts, hXs, hbl0, hlocks, hgv⟩ := C0
  have hs := flat_of_before _ hgv
  have hlen : (Term.length (.static "EasyToHard" "MOST_SETTING" "[I")).eval #[Value.ref b] s none [] s = some (.int (Int32.ofNat 4)) := va_eqt (z := 4) (hs (Cond.eq (.length (.static "EasyToHard" "MOST_SETTING" "[I")) (.int 4)) (by decide +kernel))
  have hel : ∀ j : Nat, j < 4 → (Term.elem (.static "EasyToHard" "MOST_SETTING" "[I") (.int (Int32.ofNat j))).eval #[Value.ref b] s none [] s = some (.int (nI (zs_hi j))) := fun j hj => match j, hj with
    | 0, _ => va_eqt (z := 7) (hs (Cond.eq (.elem (.static "EasyToHard" "MOST_SETTING" "[I") (.int 0)) (.int 7)) (by decide +kernel))
    | 1, _ => va_eqt (z := 999) (hs (Cond.eq (.elem (.static "EasyToHard" "MOST_SETTING" "[I") (.int 1)) (.int 999)) (by decide +kernel))
    | 2, _ => va_eqt (z := 9) (hs (Cond.eq (.elem (.static "EasyToHard" "MOST_SETTING" "[I") (.int 2)) (.int 9)) (by decide +kernel))
    | 3, _ => va_eqt (z := 1) (hs (Cond.eq (.elem (.static "EasyToHard" "MOST_SETTING" "[I") (.int 3)) (.int 1)) (by decide +kernel))
    | j + 4, hj => absurd hj (by omega)
  obtain ⟨t, h1, h2⟩ := va_Tof (A := zl_A s) (ty := .int) (N := 4) (f := fun j => .int (nI (zs_hi j))) (by decide) (hs (Cond.arrayOf (.static "EasyToHard" "MOST_SETTING" "[I") .int) (by decide +kernel)) hlen hel (fun a ha => Nat.not_le.mpr ha)
  exact ⟨t, va_Zref (hts _ (List.mem_of_getElem? (i := 390) rfl)) (hts _ (List.mem_of_getElem? (i := 79) rfl)) h1 (fun a ha => Nat.not_le.mpr ha), h2⟩
theorem zl_stat (C0 : lw_At p s m meth c b L xs) : zs_Z (zl_A s) s s.heap := by
  obtain ⟨t1, a1, a2⟩ := zl_lo C0
  obtain ⟨t2, a3, a4⟩ := zl_hi C0
  exact ⟨t1, t2, a1, a2, a3, a4⟩
theorem zl_arr {ca : FieldType → ClassId} (hca : ca = fun t => (s.vm.findClass ("[" ++ t.toString)).getD 0) {t : FieldType} {cA : ClassId} {k : Class} {comp : ClassId} (h1 : s.vm.findClass ("[" ++ t.toString) = some cA) (h2 : s.vm.classes[cA]? = some k) (h3 : k.kind = .array comp t) : ca t = cA ∧ ArrOfT s (ca t) t := by
  have h4 : ca t = cA := by
    rw [hca]
    show (s.vm.findClass ("[" ++ t.toString)).getD 0 = cA
    rw [h1]
    rfl
  refine ⟨h4, ?_⟩
  rw [h4]
  exact fun n z => ⟨fun k h => (by cases h), k, h2, comp, h3⟩
set_option maxRecDepth 100000 in
theorem zl_known (C0 : lw_At p s m meth c b L xs) : zb_AO s ∧ ∃ (D : va_G) (ca : FieldType → ClassId), va_K D vwCl (zm_ty ca) s := by
  have hts := zl_tb C0
  have hO5 : (Cond.arrayOver (.object RX5)).before #[Value.ref b] s = true := C0.2.2.2.2.2.1 _ (List.mem_of_getElem? (i := 329) rfl)
  have hOi : (Cond.arrayOver (.array .int)).before #[Value.ref b] s = true := C0.2.2.2.2.2.1 _ (List.mem_of_getElem? (i := 306) rfl)
  refine ⟨⟨va_AO.of hO5, hOi⟩, ?_⟩
  obtain ⟨c0, i0, h0⟩ := u_known (C := RX0) (T := TX0) (N := 12) (n := 12) hts clX0.2.1 (hts _ (zm_in 101 rfl rfl))
  obtain ⟨c1, i1, h1⟩ := u_known (C := RX1) (T := TX1) (N := 3) (n := 3) hts clX1.2.1 (hts _ (zm_in 284 rfl rfl))
  obtain ⟨c2, i2, h2⟩ := u_known (C := RX2) (T := TX2) (N := 6) (n := 6) hts clX2.2.1 (hts _ (zm_in 152 rfl rfl))
  obtain ⟨c3, i3, h3⟩ := u_known (C := RX3) (T := TX3) (N := 6) (n := 6) hts clX3.2.1 (hts _ (zm_in 300 rfl rfl))
  obtain ⟨c4, i4, h4⟩ := u_known (C := RX4) (T := TX4) (N := 16) (n := 16) hts clX4.2.1 (hts _ (zm_in 181 rfl rfl))
  obtain ⟨c5, i5, h5⟩ := u_known (C := RX5) (T := TX5) (N := 4) (n := 4) hts clX5.2.1 (hts _ (zm_in 330 rfl rfl))
  obtain ⟨c6, i6, h6⟩ := u_known (C := RX6) (T := TX6) (N := 8) (n := 8) hts clX6.2.1 (hts _ (zm_in 241 rfl rfl))
  obtain ⟨c7, i7, h7⟩ := u_known (C := RX7) (T := TX7) (N := 9) (n := 9) hts clX7.2.1 (hts _ (zm_in 93 rfl rfl))
  obtain ⟨c8, i8, h8⟩ := u_known (C := RX8) (T := TX8) (N := 29) (n := 29) hts clX8.2.1 (hts _ (zm_in 898 rfl rfl))
  obtain ⟨ca, hca⟩ : ∃ ca : FieldType → ClassId, ca = fun t => (s.vm.findClass ("[" ++ t.toString)).getD 0 := ⟨_, rfl⟩
  obtain ⟨a0, k0, m0, x0, y0, z0⟩ := Cond.arrayClass_spec (hts _ zb_aint)
  obtain ⟨g0, f0⟩ := zl_arr hca x0 y0 z0
  obtain ⟨a1, k1, m1, x1, y1, z1⟩ := Cond.arrayClass_spec (hts _ zb_along)
  obtain ⟨g1, f1⟩ := zl_arr hca x1 y1 z1
  obtain ⟨a2, k2, m2, x2, y2, z2⟩ := Cond.arrayClass_spec (hts _ zb_abyte)
  obtain ⟨g2, f2⟩ := zl_arr hca x2 y2 z2
  obtain ⟨a3, k3, m3, x3, y3, z3⟩ := Cond.arrayClass_spec (hts _ zb_ashort)
  obtain ⟨g3, f3⟩ := zl_arr hca x3 y3 z3
  obtain ⟨a4, k4, m4, x4, y4, z4⟩ := Cond.arrayClass_spec (hts _ zb_aboolean)
  obtain ⟨g4, f4⟩ := zl_arr hca x4 y4 z4
  obtain ⟨m5, a5, k5, w5, -, y5, z5, x5⟩ := Cond.arrayOver_spec hO5
  obtain ⟨g5, f5⟩ := zl_arr hca x5 y5 z5
  obtain ⟨m6, a6, k6, w6, -, y6, z6, x6⟩ := arrayOverA_spec hOi
  obtain ⟨g6, f6⟩ := zl_arr hca x6 y6 z6
  refine ⟨(fun k => match k with | 0 => c0 | 1 => c1 | 2 => c2 | 3 => c3 | 4 => c4 | 5 => c5 | 6 => c6 | 7 => c7 | _ => c8, fun k => match k with | 0 => i0 | 1 => i1 | 2 => i2 | 3 => i3 | 4 => i4 | 5 => i5 | 6 => i6 | 7 => i7 | _ => i8), ca, ?_, ?_⟩
  · intro k q hq
    match k, hq with
    | 0, hq => cases hq; exact h0
    | 1, hq => cases hq; exact h1
    | 2, hq => cases hq; exact h2
    | 3, hq => cases hq; exact h3
    | 4, hq => cases hq; exact h4
    | 5, hq => cases hq; exact h5
    | 6, hq => cases hq; exact h6
    | 7, hq => cases hq; exact h7
    | 8, hq => cases hq; exact h8
    | k + 9, hq => simp [vwCl] at hq
  · intro k q hq
    match k, hq with
    | 0, hq => cases hq; exact ⟨f0, by rw [g0]; exact x0⟩
    | 1, hq => cases hq; exact ⟨f1, by rw [g1]; exact x1⟩
    | 2, hq => cases hq; exact ⟨f2, by rw [g2]; exact x2⟩
    | 3, hq => cases hq; exact ⟨f3, by rw [g3]; exact x3⟩
    | 4, hq => cases hq; exact ⟨f4, by rw [g4]; exact x4⟩
    | 5, hq =>
      cases hq
      refine ⟨f5, ?_⟩
      rw [g5]
      exact ⟨k5, m5, y5, z5, w5, x5⟩
    | 6, hq => cases hq; exact ⟨f6, by rw [g6]; exact x6⟩
    | k + 7, hq => simp [zm_ty] at hq
theorem zl_ctor {D : va_G} {ca : FieldType → ClassId} {N : zm_M} {R1 : Room} {idx ci q pc k n : Nat} {fs : List Value} {SH : List zm_H} {w : zm_S} {ws : va_W} {rest : List Value} {la : Array Slot} {H : Heap} {locs : List Loc} {Z : State → Prop} (C0 : lw_At p s m meth c b L xs) (hK : va_K D vwCl (zm_ty ca) s) (hNt : ∀ z ∈ zm_nt, va_Nw z s) (hO : zb_AO s) (hdg : decode code pc = .ok (.invokespecial idx, 3)) (hN : zb_M N) (hlk : Cond.methodLink R_law idx N.2.1 ∈ zm_tb) (hC : zb_C N R1 ci fs SH w) (hR : R1.frames + 1 ≤ 2048 ∧ 8 + (N.2.2.2.1 + 11) + R1.locals ≤ 84000) (hk : k + R1.cells ≤ 600000) (hn : n + R1.slots ≤ 7302250) (hrm : (rest.map fun v => v.category).sum ≤ 8) (hl : la.size = 4) (hP : va_P D vwCl (ws ++ [(q, .inr (ci, fs))]) H) (hD : va_D (zl_A s) (ws ++ [(q, .inr (ci, fs))])) (hS : va_S (zl_A s) s.heap H locs)
    (kk : ∀ (ad : Nat → Nat) (H1 : Heap) (locs1 : List Loc), ad 0 = q → va_P D vwCl (ws ++ zm_W SH ca ad w) H1 → va_D (zl_A s) (ws ++ zm_W SH ca ad w) → va_S (zl_A s) s.heap H1 locs1 → W p l e room_1 s m #[Value.ref b] below meth c H1 locs1 (k + R1.cells) (n + R1.slots) Z (F0 m (pc + 3) la rest)) : W p l e room_1 s m #[Value.ref b] below meth c H locs k n Z (F0 m pc la (.ref q :: rest)) := by
  have hts := zl_tb C0
  have hlast : (ws ++ [(q, (.inr (ci, fs) : va_E))])[ws.length]? = some (q, .inr (ci, fs)) := by simp
  have hPc : va_P D vwCl [(q, .inr (ci, fs))] H := fun k x hx => by
    have h0 : k < 1 := (List.getElem?_eq_some_iff.mp hx).1
    rw [show k = 0 by omega] at hx
    cases hx
    exact hP ws.length _ hlast
  have hDc : va_D (fun _ => True) [(q, (.inr (ci, fs) : va_E))] := ⟨fun i j x y hx hy _ => by
    have h0 : i < 1 := (List.getElem?_eq_some_iff.mp hx).1
    have h1 : j < 1 := (List.getElem?_eq_some_iff.mp hy).1
    omega, fun _ _ _ => trivial⟩
  have hFc : ∀ x, va_A [(q, (.inr (ci, fs) : va_E))] H.size x → zl_A s x := fun x h => by
    rcases h with ⟨k, e, h⟩ | h
    · have h0 : k < 1 := (List.getElem?_eq_some_iff.mp h).1
      rw [show k = 0 by omega] at h
      cases h
      exact hD.2 ws.length _ hlast
    · exact Nat.le_trans hS.1 h
  obtain ⟨n1, n2, n3, n4, n5, n6, n7, n8⟩ := hN
  have hcb : CallB room_1 s #[Value.ref b] R_law idx N.2.1 N.2.2.1 N.2.2.2.1 none (Cond.code N.2.1 N.2.2.1 N.2.2.2.1 N.2.2.2.2 :: zm_tb) R1 R1.cells R1.slots 0 := by
    rw [n6]
    exact callB_of 0 hts (by rw [← n6]; exact zm_good n1) rfl rfl rfl (hts _ n2) (hts _ hlk) n5 hR
  have hrun := va_runI (R := room_1) (As := []) (b := q) (rest := rest) ⟨C0.1, C0.2.1, C0.2.2.2.1, C0.2.2.2.2.1, hts⟩ (hC l D ca q H.size) ⟨hcb, n4, hts _ n3⟩ ⟨zb_blind, fun U hU hW => ⟨rfl, by rw [hU], by rw [hU]; exact hPc, va_K.moved hW.alike hK, hDc, zm_nt_warm hW hNt, zb_AO.moved hW.alike hO⟩⟩ rfl rfl hl rfl (lv_room hrm) hdg ⟨hk, hn⟩ (g := F0 m pc la (.ref q :: rest)) (p := p) (e := e) (below := below) (meth := meth) (locs := locs) (cells := k) (slots := n) (H := H)
  refine va_callv hrun hS (fun x _ h => hFc x h) hFc (fun ad t H1 locs1 ht hvm hpost hB hz1 hk1 hS1 => ?_)
  obtain ⟨hP1, hD1⟩ := hB
  rw [ht] at hP1
  obtain ⟨hP2, hD2⟩ := zb_join hP hD hk1 hFc hP1 hD1
  exact kk ad H1 locs1 hpost hP2 hD2 hS1
end ZLS
set_option maxRecDepth 100000 in
theorem lkL_9 : Cond.methodLink R_law 9 yX7_init ∈ zm_tb := (zm_in 94 rfl rfl)
set_option maxRecDepth 100000 in
theorem lkL_12 : Cond.methodLink R_law 12 yX8_init ∈ zm_tb := (zm_in 899 rfl rfl)
set_option maxRecDepth 100000 in
set_option maxHeartbeats 1000000 in
/-- from the entry, for every script of at most 384 ints, the law comes to its end with true -/
theorem whole_start {p : Program} {e : Env} {s : State} {m : MethodId} {below : List Frame} {meth : Method} {c : Code} (l : Launch) {b L : Nat} {xs : Nat → Int32} (hL : L ≤ 384) (C0 : lw_At p s m meth c b L xs) : W p l e room_1 s m #[Value.ref b] below meth c s.heap [] 0 0 (lw_Z below #[Value.ref b] s) (entryFrame m ([Value.ref b] : List Value).toArray 4) := by
  obtain ⟨hO, D, ca, hK⟩ := zl_known C0
  have hZ := zl_stat C0
  have hts := zl_tb C0
  obtain ⟨hx, hb, hr, hml, hown, htl, hXs, hbl0, hlocks, hgv⟩ := id C0
  have hNt : ∀ z ∈ zm_nt, va_Nw z s := fun z hz => va_Nw.of (zm_nt_tab hz) (htl z (List.mem_filter.mp hz).1)
  have hA : ∀ q : Nat, s.heap.size ≤ q → zl_A s q := fun _ h => h
  have hS : va_S (zl_A s) s.heap s.heap [] := va_S.rf
  have hP : va_P D vwCl [] s.heap := fun k q h => by simp at h
  have hD : va_D (zl_A s) [] := ⟨fun i j p q h => by simp at h, fun k q h => by simp at h⟩
  have hl := lv_entry ([.ref b]) (n := 4) (Nat.le_of_ble_eq_true rfl)
  rw [lg_entry_eq]
  generalize (lg_sl ([.ref b]) ++ List.replicate (4 - (lg_sl ([.ref b])).length) Slot.unset).toArray = ls at hl ⊢
  have hl : lv_has ls 4 [(0, .ref b)] := hl
  refine va_new (ci := 7) (fs := [.null, .null, .null, .null, .null, .null, .null, .null, .int 0]) (C := RX7) (T := TX7) (N := 9) hx hb hts clX7.2.1 tyX7 tyX7_ok hown (hts _ (zm_in 92 rfl rfl)) (hts _ (zm_in 93 rfl rfl)) (hts _ (zm_in 79 rfl rfl)) hK hP hD hS hA rfl (by decide) (Nat.le_of_ble_eq_true rfl) (Nat.le_of_ble_eq_true rfl) dL_law_0 (fun q1 Ha hPa hDa hSa => ?_)
  refine lv_dup hx hb dL_law_3 rfl ?_
  refine zl_ctor (ws := []) C0 hK hNt hO dL_law_4 mbX7_init lkL_9 k_X7_init ⟨(Nat.le_of_ble_eq_true rfl), (Nat.le_of_ble_eq_true rfl)⟩ (Nat.le_of_ble_eq_true rfl) (Nat.le_of_ble_eq_true rfl) (Nat.le_of_ble_eq_true rfl) hl.1 hPa hDa hSa (fun ad1 Hb locs had hPb hDb hSb => ?_)
  subst had
  refine lv_astore_n (lv' := [(1, .ref (ad1 0)), (0, .ref b)]) hx hb dL_law_7 rfl hl (by decide) rfl (fun ls1 hl1 => ?_)
  refine va_new (ci := 8) (fs := [.null, .null, .null, .null, .int 0, .null, .int 0, .null, .null, .null, .null, .null, .null, .int 0, .int 0, .int 0, .null, .null, .null, .null, .null, .int 0, .int 0, .null, .null, .null, .null, .null, .null]) (C := RX8) (T := TX8) (N := 29) hx hb hts clX8.2.1 tyX8 tyX8_ok hown (hts _ (zm_in 897 rfl rfl)) (hts _ (zm_in 898 rfl rfl)) (hts _ (zm_in 87 rfl rfl)) hK hPb hDb hSb hA rfl (by decide) (Nat.le_of_ble_eq_true rfl) (Nat.le_of_ble_eq_true rfl) dL_law_8 (fun q2 Hc hPc hDc hSc => ?_)
  refine lv_dup hx hb dL_law_11 rfl ?_
  refine zl_ctor (ws := [] ++ zm_W zc_H ca ad1 zc_w0) C0 hK hNt hO dL_law_12 mbX8_init lkL_12 k_X8_init ⟨(Nat.le_of_ble_eq_true rfl), (Nat.le_of_ble_eq_true rfl)⟩ (Nat.le_of_ble_eq_true rfl) (Nat.le_of_ble_eq_true rfl) (Nat.le_of_ble_eq_true rfl) hl1.1 hPc hDc hSc (fun ad2 H locs2 had hPd hDd hSd => ?_)
  subst had
  refine lv_astore_n (lv' := [(2, .ref (ad2 0)), (1, .ref (ad1 0)), (0, .ref b)]) hx hb dL_law_15 rfl hl1 (by decide) rfl (fun ls2 hl2 => ?_)
  refine lv_iconst (v := 0) hx hb dL_law_16 (by decide) ?_
  refine lv_istore_n (lv' := [(3, .int 0), (2, .ref (ad2 0)), (1, .ref (ad1 0)), (0, .ref b)]) hx hb dL_law_17 rfl hl2 (by decide) rfl (fun ls3 hl3 => ?_)
  refine W.widen (k := 71) (n := 21086) (Nat.le_of_ble_eq_true rfl) (Nat.le_of_ble_eq_true rfl) ?_
  rw [List.nil_append] at hPd hDd
  have hP1 : va_P D vwCl (zm_W zc_H ca ad1 zc_w0) H := fun k q hk => hPd k q (by rw [List.getElem?_append_left (List.getElem?_eq_some_iff.mp hk).1]; exact hk)
  have hP2 : va_P D vwCl (zm_W zd_H ca ad2 zd_w0) H := fun k q hk => hPd ((zm_W zc_H ca ad1 zc_w0).length + k) q (by rw [List.getElem?_append_right (by omega), show (zm_W zc_H ca ad1 zc_w0).length + k - (zm_W zc_H ca ad1 zc_w0).length = k by omega]; exact hk)
  exact zl_loop ⟨C0, hK, hNt, hZ, zl_D.of hDd⟩ hL 65 0 zs_0 zc_w0 zd_w0 (Nat.zero_le _) (by omega) zc_P0 zd_P0 H locs2 ls3 hP1 hP2 hSd hl3
