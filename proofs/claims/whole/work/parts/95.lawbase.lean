def R_law : String := "EasyToHardLaw"
def lw_P (b : Addr) (xs : List Int32) (args : Array Value) (s : State) : Prop := args = #[.ref b] ∧ s.IntsAt b xs ∧ xs.length ≤ 384 ∧ (Jvm.Cond.and given_1 narrow_1).before args s = true
def lw_Q (_ : Array Value) (s : State) (o : Outcome) (t : State) : Prop := o = .returned (some (.int 1)) ∧ Framed s o t [] 600000 7302250
def lw_Z (below : List Frame) (a : Array Value) (s : State) : State → Prop := fun t => ∃ o, t.status = .running ∧ Ended t below o ∧ lw_Q a s o t
/-- the law's own end, with 1 on the stack, nothing written that was there before, its room as the claim has it -/
theorem lw_ret {p : Program} {l : Launch} {e : Env} {s : State} {m : MethodId} {below : List Frame} {meth : Method} {c : Code} {b : Nat} (hx : p.tables.exec = Jvm.exec) (hb : c.code = code) (hr : meth.sig.returnType = ret) (hlocks : meth.locks = false) {pc : Nat} {H : Heap} {ls : Array Slot} (hdg : decode code pc = .ok (.ireturn, 1)) : W p l e room_1 s m #[Value.ref b] below meth c H [] 600000 7302250 (lw_Z below #[Value.ref b] s) (F0 m pc ls [.int 1]) := by
  intro T hT X
  obtain ⟨fs, hret, hrun, hended, hW, hframe⟩ := X.leave (v := some (.int 1)) (hlocks := hlocks) (fun h => by rw [hr] at h; cases h)
  have hmeth' : T.vm.method? m = some meth := X.method'
  refine ⟨T.setFrames fs, ?_, .returned (some (.int 1)), hrun, hended, rfl, ⟨_, rfl⟩, hW, hframe⟩
  jvm_step X.here [X.here.top, hx, hb, hdg, hmeth', hr, ret, narrow_b1]
  (try refine ⟨rfl, ?_⟩); (try refine ⟨rfl, ?_⟩)
  first | (intro acts; rw [hret _ acts rfl rfl rfl]) | rw [hret _ _ rfl rfl rfl]
  exact Steps.refl _
/-- what holds at the law's entry: the machine, the code, the tables' words (any of lw_tbl by 'hts w (by decide +kernel)'), the script of L ints xs at the cell b, what the Statement gives of the start (any of its parts by flat_of_before) -/
def lw_At (p : Program) (s : State) (m : MethodId) (meth : Method) (c : Code) (b L : Nat) (xs : Nat → Int32) : Prop :=
  p.tables.exec = Jvm.exec ∧ c.code = code ∧ meth.sig.returnType = ret ∧ c.maxLocals = 4 ∧ s.vm.findClass R_law = some m.cls ∧ (∀ w ∈ lw_tbl, w.before #[Value.ref b] s = true) ∧ va_X b L xs s s.heap ∧ b < s.heap.size ∧ meth.locks = false ∧ (Jvm.Cond.and given_1 narrow_1).before #[Value.ref b] s = true
/-! ===== the law: its own rows ===== -/
def zl_A (s : State) : Nat → Prop := fun q => s.heap.size ≤ q
/-- the addresses: apart, and new -/
def zl_D (A : Nat → Prop) (ad1 ad2 : Nat → Nat) : Prop := ((∀ i j, i < zc_H.length → j < zc_H.length → ad1 i = ad1 j → i = j) ∧ ∀ i, i < zc_H.length → A (ad1 i)) ∧ ((∀ i j, i < zd_H.length → j < zd_H.length → ad2 i = ad2 j → i = j) ∧ ∀ i, i < zd_H.length → A (ad2 i)) ∧ ∀ i j, i < zc_H.length → j < zd_H.length → ad1 i ≠ ad2 j
theorem zm_W_ex {SH : List zm_H} {ca : FieldType → ClassId} {ad : Nat → Nat} {w : zm_S} {k : Nat} (h : k < SH.length) : ∃ e, (zm_W SH ca ad w)[k]? = some (ad k, e) := ⟨_, zm_W_at (List.getElem?_eq_getElem h)⟩
theorem zl_D.of {A : Nat → Prop} {ca : FieldType → ClassId} {ad1 ad2 : Nat → Nat} {w v : zm_S} (h : va_D A (zm_W zc_H ca ad1 w ++ zm_W zd_H ca ad2 v)) : zl_D A ad1 ad2 := by
  have len : (zm_W zc_H ca ad1 w).length = zc_H.length := by rw [zm_W, List.length_mapIdx]
  have l1 : ∀ i, i < zc_H.length → ∃ e, (zm_W zc_H ca ad1 w ++ zm_W zd_H ca ad2 v)[i]? = some (ad1 i, e) := fun i hi => by
    obtain ⟨e, he⟩ := zm_W_ex (ca := ca) (ad := ad1) (w := w) hi
    exact ⟨e, by rw [List.getElem?_append_left (by rw [len]; exact hi)]; exact he⟩
  have l2 : ∀ i, i < zd_H.length → ∃ e, (zm_W zc_H ca ad1 w ++ zm_W zd_H ca ad2 v)[zc_H.length + i]? = some (ad2 i, e) := fun i hi => by
    obtain ⟨e, he⟩ := zm_W_ex (ca := ca) (ad := ad2) (w := v) hi
    exact ⟨e, by rw [List.getElem?_append_right (by rw [len]; omega), len, show zc_H.length + i - zc_H.length = i by omega]; exact he⟩
  refine ⟨⟨fun i j hi hj e => ?_, fun i hi => ?_⟩, ⟨fun i j hi hj e => ?_, fun i hi => ?_⟩, fun i j hi hj e => ?_⟩
  · obtain ⟨e1, h1⟩ := l1 i hi
    obtain ⟨e2, h2⟩ := l1 j hj
    exact h.1 i j _ _ h1 h2 e
  · obtain ⟨e1, h1⟩ := l1 i hi
    exact h.2 i _ h1
  · obtain ⟨e1, h1⟩ := l2 i hi
    obtain ⟨e2, h2⟩ := l2 j hj
    have := h.1 _ _ _ _ h1 h2 e
    omega
  · obtain ⟨e1, h1⟩ := l2 i hi
    exact h.2 _ _ h1
  · obtain ⟨e1, h1⟩ := l1 i hi
    obtain ⟨e2, h2⟩ := l2 j hj
    have := h.1 _ _ _ _ h1 h2 e
    omega
theorem zm_D_of {SH : List zm_H} {ca : FieldType → ClassId} {ad : Nat → Nat} {w : zm_S} {A : Nat → Prop} (h1 : ∀ i j, i < SH.length → j < SH.length → ad i = ad j → i = j) (h2 : ∀ i, i < SH.length → A (ad i)) : va_D A (zm_W SH ca ad w) :=
  ⟨fun i j p q hi hj e => h1 i j (zm_W_back hi).1 (zm_W_back hj).1 (by rw [← (zm_W_back hi).2, ← (zm_W_back hj).2]; exact e), fun k q hk => by rw [(zm_W_back hk).2]; exact h2 k (zm_W_back hk).1⟩
section ZL
variable {l : Launch} {p : Program} {e : Env} {s : State} {m : MethodId} {below : List Frame} {meth : Method} {c : Code} {b L : Nat} {xs : Nat → Int32} {D : va_G} {ca : FieldType → ClassId}
/-- a call of a method with a contract, from the law: the other object's cells stay -/
theorem zl_core {SH SH' : List zm_H} {ad ad' : Nat → Nat} {w w' : zm_S} {N : zm_M} {d n idx pc k0 k1 : Nat} {as rest : List Value} {PU : State → Prop} {Q' : Value → zm_S → Prop} {ci : Nat} {fs : List (Option Nat)} {C : String} {T : u_T} {Nf : Nat} {H : Heap} {locs : List Loc} {la : Array Slot}
    (C0 : lw_At p s m meth c b L xs) (hK : va_K D vwCl (zm_ty ca) s) (hi : ∀ i j, i < SH.length → j < SH.length → ad i = ad j → i = j) (hn : ∀ i, i < SH.length → zl_A s (ad i)) (hap : ∀ i j, i < SH.length → j < SH'.length → ad i ≠ ad' j)
    (hdg : decode code pc = .ok (.invokevirtual idx, 3)) (hN : zm_Mv N n) (hlk : Cond.methodLink R_law idx N.2.1 ∈ zm_tb) (hs : SH[0]? = some (.inr (ci, fs))) (hcl : vwCl[ci]? = some (C, T, Nf)) (hCn : C = N.1) (hlen : as.length = n) (hrm : (rest.map fun v => v.category).sum ≤ 8) (hd : d ≤ 100) (hst : zm_st ad as = as)
    (hM : Met l N.2.1 (Cond.code N.2.1 N.2.2.1 N.2.2.2.1 N.2.2.2.2 :: zm_tb) (zm_R d) (va_Pc (zm_st ad (.ref 0 :: as)) PU) (zm_Q SH D ca ad N.2.2.2.2 Q' (zm_A SH ad H.size)) 0 0 (zm_A SH ad H.size)) (hbl : FrameBlind (va_Pc (zm_st ad (.ref 0 :: as)) PU)) (hPU : ∀ U : State, U.heap = H → s.WarmedH U.vm → PU U)
    (hP : va_P D vwCl (zm_W SH ca ad w) H) (hP' : va_P D vwCl (zm_W SH' ca ad' w') H) (hS : va_S (zl_A s) s.heap H locs) (hl : la.size = 4) (hk : k0 ≤ 600000) (hk1 : k1 ≤ 7302250) :
    va_Run p l e room_1 s m #[Value.ref b] below meth c H locs k0 k1 0 0 (F0 m pc la (as.reverse ++ .ref (ad 0) :: rest)) rest (zm_Q SH D ca ad N.2.2.2.2 Q' (zm_A SH ad H.size) (Value.ref (ad 0) :: as).toArray) (zm_A SH ad H.size) ∧ (∀ q, zm_A SH ad H.size q → zl_A s q) ∧ ∀ H1 : Heap, (∀ q : Nat, q < H.size → ¬ zm_A SH ad H.size q → H1[q]? = H[q]?) → va_P D vwCl (zm_W SH' ca ad' w') H1 := by
  obtain ⟨hx, hb, hr, hml, hown, hts, hXs, hbl0, hlocks, hgv⟩ := C0
  have hts' : ∀ z ∈ zm_tb, z.before #[Value.ref b] s = true := fun z hz => hts z (List.mem_filter.mp hz).1
  have hsub : ∀ q, zm_A SH ad H.size q → zl_A s q := fun q h => h.elim (fun ⟨k, h1, h2⟩ => by rw [h2]; exact hn k h1) (fun h => Nat.le_trans hS.1 h)
  refine ⟨?_, hsub, fun H1 hk1 => hP'.kept (fun k x hx => hk1 x.1 ((hP' k x hx).lt) (fun h => ?_))⟩
  · have e1 : zm_st ad (.ref 0 :: as) = .ref (ad 0) :: as := by
      show .ref (ad 0) :: zm_st ad as = _
      rw [hst]
    rw [e1] at hM hbl
    have hcb : CallB room_1 s #[Value.ref b] R_law idx N.2.1 N.2.2.1 N.2.2.2.1 N.2.2.2.2 (Cond.code N.2.1 N.2.2.1 N.2.2.2.1 N.2.2.2.2 :: zm_tb) (zm_R d) 0 0 n := callB_of n hts' (zm_good hN.1.2.1) rfl rfl rfl (hts' _ hN.1.2.2.1) (hts' _ hlk) ⟨hN.1.2.2.2.1.1, hN.1.2.2.2.1.2, hN.1.2.2.2.2.1⟩ ⟨by show d + 1 + 1 ≤ 2048; omega, by have := hN.1.2.2.2.2.2.1; show 8 + (N.2.2.2.1 + 11) + 70 * (d + 1) ≤ 84000; omega⟩
    exact va_runV (As := as) (rest := rest) (C := C) ⟨hx, hb, hml, hown, hts'⟩ hM ⟨hcb, hts' _ hN.2.1, by rw [hCn]; exact hts' _ hN.2.2⟩ ⟨hbl, va_recv hK hP hcl (zm_W_at hs), fun U hU hW => ⟨rfl, hPU U hU hW⟩⟩ rfl hlen hl rfl (lv_room hrm) hdg ⟨hk, hk1⟩ (g := F0 m pc la (as.reverse ++ .ref (ad 0) :: rest))
  · have hb2 := zm_W_back hx
    have hlt := (hP' k x hx).lt
    rcases h with ⟨k2, h1, h2⟩ | h
    · exact hap k2 k h1 hb2.1 (by rw [← h2, hb2.2])
    · omega
/-- from here the law comes to its end with true -/
def zl_T (l : Launch) (p : Program) (e : Env) (s : State) (m : MethodId) (below : List Frame) (meth : Method) (c : Code) (b : Nat) (D : va_G) (ca : FieldType → ClassId) (ad1 ad2 : Nat → Nat) (pc : Nat) (i : Int32) (st : List Value) (w v : zm_S) : Prop :=
  ∀ (H : Heap) (locs : List Loc) (la : Array Slot), va_P D vwCl (zm_W zc_H ca ad1 w) H → va_P D vwCl (zm_W zd_H ca ad2 v) H → va_S (zl_A s) s.heap H locs → lv_has la 4 [(3, .int i), (2, .ref (ad2 0)), (1, .ref (ad1 0)), (0, .ref b)] → W p l e room_1 s m #[Value.ref b] below meth c H locs 71 21086 (lw_Z below #[Value.ref b] s) (F0 m pc la st)
def zl_G (p : Program) (s : State) (m : MethodId) (meth : Method) (c : Code) (b L : Nat) (xs : Nat → Int32) (D : va_G) (ca : FieldType → ClassId) (ad1 ad2 : Nat → Nat) : Prop := lw_At p s m meth c b L xs ∧ va_K D vwCl (zm_ty ca) s ∧ (∀ z ∈ zm_nt, va_Nw z s) ∧ zs_Z (zl_A s) s s.heap ∧ zl_D (zl_A s) ad1 ad2
variable {ad1 ad2 : Nat → Nat} {pc : Nat} {i : Int32} {st : List Value} {w v : zm_S}
theorem zl_bA (h : b < s.heap.size) : ¬ zl_A s b := Nat.not_le.mpr h
/-- aload_0, iload_3, a number, iadd, iaload: the script's cell i + x -/
theorem zl_arg {z : Int} {x : Int32} (hG : zl_G p s m meth c b L xs D ca ad1 ad2) (hin : vp_in (i + x) L) (h1 : decode code pc = .ok (.aload_n 0, 1)) (h2 : decode code (pc + 1) = .ok (.iload_n 3, 1)) (h3 : decode code (pc + 2) = .ok (.iconst z, 1)) (hz : Int32.ofInt z = x) (h4 : decode code (pc + 3) = .ok (.iadd, 1)) (h5 : decode code (pc + 4) = .ok (.iaload, 1)) (kk : zl_T l p e s m below meth c b D ca ad1 ad2 (pc + 5) i (.int (xs (i + x).toNatClampNeg) :: st) w v) : zl_T l p e s m below meth c b D ca ad1 ad2 pc i st w v := by
  intro H locs la hP hP' hS hl
  obtain ⟨hx, hb, hr, hml, hown, hts, hXs, hbl0, hlocks, hgv⟩ := hG.1
  refine lv_aload_n hx hb h1 rfl (lv_at hl 3 rfl) ?_
  refine lv_iload_n hx hb h2 rfl (lv_at hl 0 rfl) ?_
  refine lv_iconst (v := x) hx hb h3 hz ?_
  refine lv_iadd hx hb h4 ?_
  exact va_sld hx hb hXs hbl0 (zl_bA hbl0) hS hin h5 (kk H locs la hP hP' hS hl)
theorem zl_ld1 (hG : zl_G p s m meth c b L xs D ca ad1 ad2) (h1 : decode code pc = .ok (.aload_n 1, 1)) (kk : zl_T l p e s m below meth c b D ca ad1 ad2 (pc + 1) i (.ref (ad1 0) :: st) w v) : zl_T l p e s m below meth c b D ca ad1 ad2 pc i st w v := by
  intro H locs la hP hP' hS hl
  exact lv_aload_n hG.1.1 hG.1.2.1 h1 rfl (lv_at hl 2 rfl) (kk H locs la hP hP' hS hl)
theorem zl_ld2 (hG : zl_G p s m meth c b L xs D ca ad1 ad2) (h1 : decode code pc = .ok (.aload_n 2, 1)) (kk : zl_T l p e s m below meth c b D ca ad1 ad2 (pc + 1) i (.ref (ad2 0) :: st) w v) : zl_T l p e s m below meth c b D ca ad1 ad2 pc i st w v := by
  intro H locs la hP hP' hS hl
  exact lv_aload_n hG.1.1 hG.1.2.1 h1 rfl (lv_at hl 1 rfl) (kk H locs la hP hP' hS hl)
theorem zl_xi {N : zm_M} {d n idx : Nat} {as rest : List Value} {Q' : Value → zm_S → Prop} {C : String} {T : u_T} {Nf : Nat} (hG : zl_G p s m meth c b L xs D ca ad1 ad2) (hdg : decode code pc = .ok (.invokevirtual idx, 3)) (hN : zm_Mv N n) (hlk : Cond.methodLink R_law idx N.2.1 ∈ zm_tb) (hcl : vwCl[7]? = some (C, T, Nf)) (hCn : C = N.1) (hst : ∀ ad, zm_st ad as = as) (hs : st = as.reverse ++ .ref (ad1 0) :: rest) (hlen : as.length = n) (hrm : (rest.map fun v => v.category).sum ≤ 8) (hd : d ≤ 100) (hr : N.2.2.2.2 = some .int) (hC : zm_C zc_H d N (.ref 0 :: as) w Q') (kk : ∀ (r : Int32) (u : zm_S), Q' (.int r) u → zl_T l p e s m below meth c b D ca ad1 ad2 (pc + 3) i (.int r :: rest) u v) : zl_T l p e s m below meth c b D ca ad1 ad2 pc i st w v := by
  intro H locs la hP hP' hS hl
  subst hs
  obtain ⟨hrun, hsub, hoth⟩ := zl_core (e := e) (below := below) (k0 := 71) (k1 := 21086) (SH' := zd_H) (ad' := ad2) (w' := v) (w := w) hG.1 hG.2.1 hG.2.2.2.2.1.1 hG.2.2.2.2.1.2 hG.2.2.2.2.2.2 hdg hN hlk zc_H0 hcl hCn hlen hrm hd (hst _) (hC l D ca ad1 H.size) zm_blind (fun U hU hW => ⟨by rw [hU], by rw [hU]; exact hP, va_K.moved hW.alike hG.2.1, (zm_D_of hG.2.2.2.2.1.1 hG.2.2.2.2.1.2).weaken (fun _ _ _ _ => trivial), zm_nt_warm hW hG.2.2.1⟩) hP hP' hS hl.1 (Nat.le_of_ble_eq_true rfl) (Nat.le_of_ble_eq_true rfl)
  have hqq : zm_Q zc_H D ca ad1 N.2.2.2.2 Q' (zm_A zc_H ad1 H.size) = va_Qi (fun r u => Q' (.int r) u) (zm_B zc_H D ca ad1 (zm_A zc_H ad1 H.size)) (zm_A zc_H ad1 H.size) := by rw [hr]; rfl
  rw [hqq] at hrun
  refine va_calli hrun hS (fun q _ h => hsub q h) hsub (fun r u t H1 locs1 ht hvm hpost hB hz1 hk1 hS1 => ?_)
  exact kk r u hpost H1 locs1 la (by rw [← ht]; exact hB.1) (hoth H1 hk1) hS1 hl
theorem zl_xl {N : zm_M} {d n idx : Nat} {as rest : List Value} {Q' : Value → zm_S → Prop} {C : String} {T : u_T} {Nf : Nat} (hG : zl_G p s m meth c b L xs D ca ad1 ad2) (hdg : decode code pc = .ok (.invokevirtual idx, 3)) (hN : zm_Mv N n) (hlk : Cond.methodLink R_law idx N.2.1 ∈ zm_tb) (hcl : vwCl[7]? = some (C, T, Nf)) (hCn : C = N.1) (hst : ∀ ad, zm_st ad as = as) (hs : st = as.reverse ++ .ref (ad1 0) :: rest) (hlen : as.length = n) (hrm : (rest.map fun v => v.category).sum ≤ 8) (hd : d ≤ 100) (hr : N.2.2.2.2 = some .long) (hC : zm_C zc_H d N (.ref 0 :: as) w Q') (kk : ∀ (r : Int64) (u : zm_S), Q' (.long r) u → zl_T l p e s m below meth c b D ca ad1 ad2 (pc + 3) i (.long r :: rest) u v) : zl_T l p e s m below meth c b D ca ad1 ad2 pc i st w v := by
  intro H locs la hP hP' hS hl
  subst hs
  obtain ⟨hrun, hsub, hoth⟩ := zl_core (e := e) (below := below) (k0 := 71) (k1 := 21086) (SH' := zd_H) (ad' := ad2) (w' := v) (w := w) hG.1 hG.2.1 hG.2.2.2.2.1.1 hG.2.2.2.2.1.2 hG.2.2.2.2.2.2 hdg hN hlk zc_H0 hcl hCn hlen hrm hd (hst _) (hC l D ca ad1 H.size) zm_blind (fun U hU hW => ⟨by rw [hU], by rw [hU]; exact hP, va_K.moved hW.alike hG.2.1, (zm_D_of hG.2.2.2.2.1.1 hG.2.2.2.2.1.2).weaken (fun _ _ _ _ => trivial), zm_nt_warm hW hG.2.2.1⟩) hP hP' hS hl.1 (Nat.le_of_ble_eq_true rfl) (Nat.le_of_ble_eq_true rfl)
  have hqq : zm_Q zc_H D ca ad1 N.2.2.2.2 Q' (zm_A zc_H ad1 H.size) = va_Ql (fun r u => Q' (.long r) u) (zm_B zc_H D ca ad1 (zm_A zc_H ad1 H.size)) (zm_A zc_H ad1 H.size) := by rw [hr]; rfl
  rw [hqq] at hrun
  refine va_calll hrun hS (fun q _ h => hsub q h) hsub (fun r u t H1 locs1 ht hvm hpost hB hz1 hk1 hS1 => ?_)
  exact kk r u hpost H1 locs1 la (by rw [← ht]; exact hB.1) (hoth H1 hk1) hS1 hl
theorem zl_mi {N : zm_M} {d n idx : Nat} {as rest : List Value} {Q' : Value → zm_S → Prop} {C : String} {T : u_T} {Nf : Nat} (hG : zl_G p s m meth c b L xs D ca ad1 ad2) (hdg : decode code pc = .ok (.invokevirtual idx, 3)) (hN : zm_Mv N n) (hlk : Cond.methodLink R_law idx N.2.1 ∈ zm_tb) (hcl : vwCl[8]? = some (C, T, Nf)) (hCn : C = N.1) (hst : ∀ ad, zm_st ad as = as) (hs : st = as.reverse ++ .ref (ad2 0) :: rest) (hlen : as.length = n) (hrm : (rest.map fun v => v.category).sum ≤ 8) (hd : d ≤ 100) (hr : N.2.2.2.2 = some .int) (hC : zm_C zd_H d N (.ref 0 :: as) v Q') (kk : ∀ (r : Int32) (u : zm_S), Q' (.int r) u → zl_T l p e s m below meth c b D ca ad1 ad2 (pc + 3) i (.int r :: rest) w u) : zl_T l p e s m below meth c b D ca ad1 ad2 pc i st w v := by
  intro H locs la hP hP' hS hl
  subst hs
  obtain ⟨hrun, hsub, hoth⟩ := zl_core (e := e) (below := below) (k0 := 71) (k1 := 21086) (SH' := zc_H) (ad' := ad1) (w' := w) (w := v) hG.1 hG.2.1 hG.2.2.2.2.2.1.1 hG.2.2.2.2.2.1.2 (fun i j hi hj q => hG.2.2.2.2.2.2 j i hj hi q.symm) hdg hN hlk zd_H0 hcl hCn hlen hrm hd (hst _) (hC l D ca ad2 H.size) zm_blind (fun U hU hW => ⟨by rw [hU], by rw [hU]; exact hP', va_K.moved hW.alike hG.2.1, (zm_D_of hG.2.2.2.2.2.1.1 hG.2.2.2.2.2.1.2).weaken (fun _ _ _ _ => trivial), zm_nt_warm hW hG.2.2.1⟩) hP' hP hS hl.1 (Nat.le_of_ble_eq_true rfl) (Nat.le_of_ble_eq_true rfl)
  have hqq : zm_Q zd_H D ca ad2 N.2.2.2.2 Q' (zm_A zd_H ad2 H.size) = va_Qi (fun r u => Q' (.int r) u) (zm_B zd_H D ca ad2 (zm_A zd_H ad2 H.size)) (zm_A zd_H ad2 H.size) := by rw [hr]; rfl
  rw [hqq] at hrun
  refine va_calli hrun hS (fun q _ h => hsub q h) hsub (fun r u t H1 locs1 ht hvm hpost hB hz1 hk1 hS1 => ?_)
  exact kk r u hpost H1 locs1 la (hoth H1 hk1) (by rw [← ht]; exact hB.1) hS1 hl
theorem zl_ml {N : zm_M} {d n idx : Nat} {as rest : List Value} {Q' : Value → zm_S → Prop} {C : String} {T : u_T} {Nf : Nat} (hG : zl_G p s m meth c b L xs D ca ad1 ad2) (hdg : decode code pc = .ok (.invokevirtual idx, 3)) (hN : zm_Mv N n) (hlk : Cond.methodLink R_law idx N.2.1 ∈ zm_tb) (hcl : vwCl[8]? = some (C, T, Nf)) (hCn : C = N.1) (hst : ∀ ad, zm_st ad as = as) (hs : st = as.reverse ++ .ref (ad2 0) :: rest) (hlen : as.length = n) (hrm : (rest.map fun v => v.category).sum ≤ 8) (hd : d ≤ 100) (hr : N.2.2.2.2 = some .long) (hC : zm_C zd_H d N (.ref 0 :: as) v Q') (kk : ∀ (r : Int64) (u : zm_S), Q' (.long r) u → zl_T l p e s m below meth c b D ca ad1 ad2 (pc + 3) i (.long r :: rest) w u) : zl_T l p e s m below meth c b D ca ad1 ad2 pc i st w v := by
  intro H locs la hP hP' hS hl
  subst hs
  obtain ⟨hrun, hsub, hoth⟩ := zl_core (e := e) (below := below) (k0 := 71) (k1 := 21086) (SH' := zc_H) (ad' := ad1) (w' := w) (w := v) hG.1 hG.2.1 hG.2.2.2.2.2.1.1 hG.2.2.2.2.2.1.2 (fun i j hi hj q => hG.2.2.2.2.2.2 j i hj hi q.symm) hdg hN hlk zd_H0 hcl hCn hlen hrm hd (hst _) (hC l D ca ad2 H.size) zm_blind (fun U hU hW => ⟨by rw [hU], by rw [hU]; exact hP', va_K.moved hW.alike hG.2.1, (zm_D_of hG.2.2.2.2.2.1.1 hG.2.2.2.2.2.1.2).weaken (fun _ _ _ _ => trivial), zm_nt_warm hW hG.2.2.1⟩) hP' hP hS hl.1 (Nat.le_of_ble_eq_true rfl) (Nat.le_of_ble_eq_true rfl)
  have hqq : zm_Q zd_H D ca ad2 N.2.2.2.2 Q' (zm_A zd_H ad2 H.size) = va_Ql (fun r u => Q' (.long r) u) (zm_B zd_H D ca ad2 (zm_A zd_H ad2 H.size)) (zm_A zd_H ad2 H.size) := by rw [hr]; rfl
  rw [hqq] at hrun
  refine va_calll hrun hS (fun q _ h => hsub q h) hsub (fun r u t H1 locs1 ht hvm hpost hB hz1 hk1 hS1 => ?_)
  exact kk r u hpost H1 locs1 la (hoth H1 hk1) (by rw [← ht]; exact hB.1) hS1 hl
theorem zl_set {idx : Nat} {x y : Int32} {rest : List Value} {a : zs_A} (hG : zl_G p s m meth c b L xs D ca ad1 ad2) (h : zc_P a w) (hdg : decode code pc = .ok (.invokevirtual idx, 3)) (hlk : Cond.methodLink R_law idx mX7_set.2.1 ∈ zm_tb) (hrm : (rest.map fun v => v.category).sum ≤ 8) (kk : ∀ (r : Int32) (u : zm_S), zp (.int (zs_set a x y).1) (zc_P (zs_set a x y).2) (.int r) u → zl_T l p e s m below meth c b D ca ad1 ad2 (pc + 3) i (.int r :: rest) u v) : zl_T l p e s m below meth c b D ca ad1 ad2 pc i (.int y :: .int x :: .ref (ad1 0) :: rest) w v := by
  intro H locs la hP hP' hS hl
  have hblind : FrameBlind (va_Pc (zm_st ad1 [.ref 0, .int x, .int y]) (zm_Ps D ca ad1 w H.size)) := fun a U g mk q => by
    obtain ⟨q0, ⟨q1, qP, qK, qD, qN⟩, qZ⟩ := q
    exact ⟨q0, ⟨q1, qP, va_K.moved (u := U) (U := U.calling g mk a) (Vm.Alike.refl U.vm) qK, qD, zm_nt_same (u := U) (U := U.calling g mk a) rfl qN⟩, zs_Z.moved (u := U) (U := U.calling g mk a) (Vm.Alike.refl U.vm) qZ⟩
  have hsub0 : ∀ q, zm_A zc_H ad1 H.size q → zl_A s q := fun q h => h.elim (fun ⟨k, h1, h2⟩ => by rw [h2]; exact hG.2.2.2.2.1.2 k h1) (fun h => Nat.le_trans hS.1 h)
  obtain ⟨hrun, hsub, hoth⟩ := zl_core (e := e) (below := below) (k0 := 71) (k1 := 21086) (SH' := zd_H) (ad' := ad2) (w' := v) (w := w) (as := [.int x, .int y]) (rest := rest) hG.1 hG.2.1 hG.2.2.2.2.1.1 hG.2.2.2.2.1.2 hG.2.2.2.2.2.2 hdg mtX7_set hlk zc_H0 (C := RX7) rfl rfl rfl hrm (Nat.le_of_ble_eq_true rfl) rfl (c_set (d := 0) h x y l D ca ad1 H.size) hblind (fun U hU hW => ⟨⟨by rw [hU], by rw [hU]; exact hP, va_K.moved hW.alike hG.2.1, (zm_D_of hG.2.2.2.2.1.1 hG.2.2.2.2.1.2).weaken (fun _ _ _ _ => trivial), zm_nt_warm hW hG.2.2.1⟩, by rw [hU]; exact ((hG.2.2.2.1.moved hW.alike).kept hS.2.1).narrow hsub0⟩) hP hP' hS hl.1 (Nat.le_of_ble_eq_true rfl) (Nat.le_of_ble_eq_true rfl)
  have hqq : zm_Q zc_H D ca ad1 mX7_set.2.2.2.2 (zp (.int (zs_set a x y).1) (zc_P (zs_set a x y).2)) (zm_A zc_H ad1 H.size) = va_Qi (fun r u => zp (.int (zs_set a x y).1) (zc_P (zs_set a x y).2) (.int r) u) (zm_B zc_H D ca ad1 (zm_A zc_H ad1 H.size)) (zm_A zc_H ad1 H.size) := rfl
  rw [hqq] at hrun
  refine va_calli hrun hS (fun q _ h => hsub q h) hsub (fun r u t H1 locs1 ht hvm hpost hB hz1 hk1 hS1 => ?_)
  exact kk r u hpost H1 locs1 la (by rw [← ht]; exact hB.1) (hoth H1 hk1) hS1 hl
theorem zl_eq {x : Int32} (hG : zl_G p s m meth c b L xs D ca ad1 ad2) (h1 : decode code pc = .ok (.if_icmp .eq (1337 - pc), 3)) (kk : zl_T l p e s m below meth c b D ca ad1 ad2 1337 i [] w v) : zl_T l p e s m below meth c b D ca ad1 ad2 pc i [.int x, .int x] w v := by
  intro H locs la hP hP' hS hl
  exact lv_icmp_eq (tgt := 1337) hG.1.1 hG.1.2.1 h1 (by omega) (fun _ => kk H locs la hP hP' hS hl) (fun h => absurd rfl h)
theorem zl_leq {x : Int64} (hG : zl_G p s m meth c b L xs D ca ad1 ad2) (h0 : decode code pc = .ok (.lcmp, 1)) (h1 : decode code (pc + 1) = .ok (.ifCond .eq (1337 - (pc + 1 : Nat)), 3)) (kk : zl_T l p e s m below meth c b D ca ad1 ad2 1337 i [] w v) : zl_T l p e s m below meth c b D ca ad1 ad2 pc i [.long x, .long x] w v := by
  intro H locs la hP hP' hS hl
  refine W.lcmp hG.1.1 hG.1.2.1 h0 ?_
  exact lv_if_eq (tgt := 1337) hG.1.1 hG.1.2.1 h1 (by omega) (fun _ => kk H locs la hP hP' hS hl) (fun h => absurd ((lg_cmp_eq x x).mpr rfl) h)
end ZL
