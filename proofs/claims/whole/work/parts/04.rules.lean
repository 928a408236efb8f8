section ZM
variable {SH : List zm_H} {d : Nat} {M : zm_M} {Q : Value → zm_S → Prop} {pc : Nat} {ls : List (Nat × Value)} {st : List Value} {w : zm_S}
theorem zm_sub (ks : List Nat) {ls' : List (Nat × Value)} (h : lv_pick ls ks = ls') (k : zm_T SH d M Q pc ls' st w) : zm_T SH d M Q pc ls st w := by
  intro l D ca ad p e s m args below meth c H locs la hX hY hl
  refine k l D ca ad p e s m args below meth c H locs la hX hY (lv_sub hl ks ?_)
  rw [← h]
  simp only [lv_pick, zm_ls, List.map_filterMap, List.getElem?_map]
theorem zm_at {ad : Nat → Nat} {la : Array Slot} {n i j : Nat} {v : Value} (hl : lv_has la n (zm_ls ad ls)) (h : ls[j]? = some (i, v)) : la[i]? = some (.val (zm_v ad v)) := lv_at hl j (by simp [zm_ls, h])
theorem zm_iload {i : Nat} {x : Int32} (j : Nat) (hdg : decode M.2.2.1 pc = .ok (.iload i, 2)) (h : ls[j]? = some (i, .int x)) (k : zm_T SH d M Q (pc + 2) ls (.int x :: st) w) : zm_T SH d M Q pc ls st w := by
  intro l D ca ad p e s m args below meth c H locs la hX hY hl
  exact lv_iload hX.1 hX.2.1 hdg (zm_at hl h) (k l D ca ad p e s m args below meth c H locs la hX hY hl)
theorem zm_iload_n {k0 : Fin 4} {i : Nat} {x : Int32} (j : Nat) (hdg : decode M.2.2.1 pc = .ok (.iload_n k0, 1)) (hi : (k0 : Nat) = i) (h : ls[j]? = some (i, .int x)) (k : zm_T SH d M Q (pc + 1) ls (.int x :: st) w) : zm_T SH d M Q pc ls st w := by
  intro l D ca ad p e s m args below meth c H locs la hX hY hl
  exact lv_iload_n hX.1 hX.2.1 hdg hi (zm_at hl h) (k l D ca ad p e s m args below meth c H locs la hX hY hl)
theorem zm_lload {i : Nat} {x : Int64} (j : Nat) (hdg : decode M.2.2.1 pc = .ok (.lload i, 2)) (h : ls[j]? = some (i, .long x)) (k : zm_T SH d M Q (pc + 2) ls (.long x :: st) w) : zm_T SH d M Q pc ls st w := by
  intro l D ca ad p e s m args below meth c H locs la hX hY hl
  exact lv_lload hX.1 hX.2.1 hdg (zm_at hl h) (k l D ca ad p e s m args below meth c H locs la hX hY hl)
theorem zm_lload_n {k0 : Fin 4} {i : Nat} {x : Int64} (j : Nat) (hdg : decode M.2.2.1 pc = .ok (.lload_n k0, 1)) (hi : (k0 : Nat) = i) (h : ls[j]? = some (i, .long x)) (k : zm_T SH d M Q (pc + 1) ls (.long x :: st) w) : zm_T SH d M Q pc ls st w := by
  intro l D ca ad p e s m args below meth c H locs la hX hY hl
  exact lv_lload_n hX.1 hX.2.1 hdg hi (zm_at hl h) (k l D ca ad p e s m args below meth c H locs la hX hY hl)
theorem zm_aload {i : Nat} {x : Nat} (j : Nat) (hdg : decode M.2.2.1 pc = .ok (.aload i, 2)) (h : ls[j]? = some (i, .ref x)) (k : zm_T SH d M Q (pc + 2) ls (.ref x :: st) w) : zm_T SH d M Q pc ls st w := by
  intro l D ca ad p e s m args below meth c H locs la hX hY hl
  exact lv_aload hX.1 hX.2.1 hdg (zm_at hl h) (k l D ca ad p e s m args below meth c H locs la hX hY hl)
theorem zm_aload_n {k0 : Fin 4} {i : Nat} {x : Nat} (j : Nat) (hdg : decode M.2.2.1 pc = .ok (.aload_n k0, 1)) (hi : (k0 : Nat) = i) (h : ls[j]? = some (i, .ref x)) (k : zm_T SH d M Q (pc + 1) ls (.ref x :: st) w) : zm_T SH d M Q pc ls st w := by
  intro l D ca ad p e s m args below meth c H locs la hX hY hl
  exact lv_aload_n hX.1 hX.2.1 hdg hi (zm_at hl h) (k l D ca ad p e s m args below meth c H locs la hX hY hl)
theorem zm_iconst {n : Int} {v : Int32} (hdg : decode M.2.2.1 pc = .ok (.iconst n, 1)) (hv : Int32.ofInt n = v) (k : zm_T SH d M Q (pc + 1) ls (.int v :: st) w) : zm_T SH d M Q pc ls st w := by
  intro l D ca ad p e s m args below meth c H locs la hX hY hl
  exact lv_iconst hX.1 hX.2.1 hdg hv (k l D ca ad p e s m args below meth c H locs la hX hY hl)
theorem zm_bipush {n : Int} {v : Int32} (hdg : decode M.2.2.1 pc = .ok (.bipush n, 2)) (hv : (Int8.ofInt n).toInt32 = v) (k : zm_T SH d M Q (pc + 2) ls (.int v :: st) w) : zm_T SH d M Q pc ls st w := by
  intro l D ca ad p e s m args below meth c H locs la hX hY hl
  exact lv_bipush hX.1 hX.2.1 hdg hv (k l D ca ad p e s m args below meth c H locs la hX hY hl)
theorem zm_sipush {n : Int} {v : Int32} (hdg : decode M.2.2.1 pc = .ok (.sipush n, 3)) (hv : (Int16.ofInt n).toInt32 = v) (k : zm_T SH d M Q (pc + 3) ls (.int v :: st) w) : zm_T SH d M Q pc ls st w := by
  intro l D ca ad p e s m args below meth c H locs la hX hY hl
  exact lv_sipush hX.1 hX.2.1 hdg hv (k l D ca ad p e s m args below meth c H locs la hX hY hl)
theorem zm_lconst {n : Fin 2} {v : Int64} (hdg : decode M.2.2.1 pc = .ok (.lconst n, 1)) (hv : Int64.ofNat (n : Nat) = v) (k : zm_T SH d M Q (pc + 1) ls (.long v :: st) w) : zm_T SH d M Q pc ls st w := by
  intro l D ca ad p e s m args below meth c H locs la hX hY hl
  exact lv_lconst hX.1 hX.2.1 hdg hv (k l D ca ad p e s m args below meth c H locs la hX hY hl)
theorem zm_ldc {i : Nat} {v : Int32} (hdg : decode M.2.2.1 pc = .ok (.ldc i, 2)) (hc : Cond.constant M.1 i v ∈ zm_tb) (k : zm_T SH d M Q (pc + 2) ls (.int v :: st) w) : zm_T SH d M Q pc ls st w := by
  intro l D ca ad p e s m args below meth c H locs la hX hY hl
  exact lv_ldc hX.1 hX.2.1 hX.2.2.2.2.2.1 (hX.2.2.2.2.2.2.1 _ hc) hdg (k l D ca ad p e s m args below meth c H locs la hX hY hl)
theorem zm_ldc_w {i : Nat} {v : Int32} (hdg : decode M.2.2.1 pc = .ok (.ldc_w i, 3)) (hc : Cond.constant M.1 i v ∈ zm_tb) (k : zm_T SH d M Q (pc + 3) ls (.int v :: st) w) : zm_T SH d M Q pc ls st w := by
  intro l D ca ad p e s m args below meth c H locs la hX hY hl
  exact lv_ldcw hX.1 hX.2.1 hX.2.2.2.2.2.1 (hX.2.2.2.2.2.2.1 _ hc) hdg (k l D ca ad p e s m args below meth c H locs la hX hY hl)
theorem zm_ldc2_w {i : Nat} {v : Int64} (hdg : decode M.2.2.1 pc = .ok (.ldc2_w i, 3)) (hc : Cond.constantLong M.1 i v ∈ zm_tb) (k : zm_T SH d M Q (pc + 3) ls (.long v :: st) w) : zm_T SH d M Q pc ls st w := by
  intro l D ca ad p e s m args below meth c H locs la hX hY hl
  exact lv_ldc2 hX.1 hX.2.1 hX.2.2.2.2.2.1 (hX.2.2.2.2.2.2.1 _ hc) hdg (k l D ca ad p e s m args below meth c H locs la hX hY hl)
theorem zm_iadd {x y : Int32} (hdg : decode M.2.2.1 pc = .ok (.iadd, 1)) (k : zm_T SH d M Q (pc + 1) ls (.int (x + y) :: st) w) : zm_T SH d M Q pc ls (.int y :: .int x :: st) w := by
  intro l D ca ad p e s m args below meth c H locs la hX hY hl
  exact lv_iadd hX.1 hX.2.1 hdg (k l D ca ad p e s m args below meth c H locs la hX hY hl)
theorem zm_isub {x y : Int32} (hdg : decode M.2.2.1 pc = .ok (.isub, 1)) (k : zm_T SH d M Q (pc + 1) ls (.int (x - y) :: st) w) : zm_T SH d M Q pc ls (.int y :: .int x :: st) w := by
  intro l D ca ad p e s m args below meth c H locs la hX hY hl
  exact lv_isub hX.1 hX.2.1 hdg (k l D ca ad p e s m args below meth c H locs la hX hY hl)
theorem zm_imul {x y : Int32} (hdg : decode M.2.2.1 pc = .ok (.imul, 1)) (k : zm_T SH d M Q (pc + 1) ls (.int (x * y) :: st) w) : zm_T SH d M Q pc ls (.int y :: .int x :: st) w := by
  intro l D ca ad p e s m args below meth c H locs la hX hY hl
  exact lv_imul hX.1 hX.2.1 hdg (k l D ca ad p e s m args below meth c H locs la hX hY hl)
theorem zm_iand {x y : Int32} (hdg : decode M.2.2.1 pc = .ok (.iand, 1)) (k : zm_T SH d M Q (pc + 1) ls (.int (x &&& y) :: st) w) : zm_T SH d M Q pc ls (.int y :: .int x :: st) w := by
  intro l D ca ad p e s m args below meth c H locs la hX hY hl
  exact lv_iand hX.1 hX.2.1 hdg (k l D ca ad p e s m args below meth c H locs la hX hY hl)
theorem zm_ior {x y : Int32} (hdg : decode M.2.2.1 pc = .ok (.ior, 1)) (k : zm_T SH d M Q (pc + 1) ls (.int (x ||| y) :: st) w) : zm_T SH d M Q pc ls (.int y :: .int x :: st) w := by
  intro l D ca ad p e s m args below meth c H locs la hX hY hl
  exact lv_ior hX.1 hX.2.1 hdg (k l D ca ad p e s m args below meth c H locs la hX hY hl)
theorem zm_ixor {x y : Int32} (hdg : decode M.2.2.1 pc = .ok (.ixor, 1)) (k : zm_T SH d M Q (pc + 1) ls (.int (x ^^^ y) :: st) w) : zm_T SH d M Q pc ls (.int y :: .int x :: st) w := by
  intro l D ca ad p e s m args below meth c H locs la hX hY hl
  exact lv_ixor hX.1 hX.2.1 hdg (k l D ca ad p e s m args below meth c H locs la hX hY hl)
theorem zm_ishl {x y : Int32} (hdg : decode M.2.2.1 pc = .ok (.ishl, 1)) (k : zm_T SH d M Q (pc + 1) ls (.int (x <<< (y &&& 31)) :: st) w) : zm_T SH d M Q pc ls (.int y :: .int x :: st) w := by
  intro l D ca ad p e s m args below meth c H locs la hX hY hl
  exact lv_ishl hX.1 hX.2.1 hdg (k l D ca ad p e s m args below meth c H locs la hX hY hl)
theorem zm_ishr {x y : Int32} (hdg : decode M.2.2.1 pc = .ok (.ishr, 1)) (k : zm_T SH d M Q (pc + 1) ls (.int (x >>> (y &&& 31)) :: st) w) : zm_T SH d M Q pc ls (.int y :: .int x :: st) w := by
  intro l D ca ad p e s m args below meth c H locs la hX hY hl
  exact lv_ishr hX.1 hX.2.1 hdg (k l D ca ad p e s m args below meth c H locs la hX hY hl)
theorem zm_ladd {x y : Int64} (hdg : decode M.2.2.1 pc = .ok (.ladd, 1)) (k : zm_T SH d M Q (pc + 1) ls (.long (x + y) :: st) w) : zm_T SH d M Q pc ls (.long y :: .long x :: st) w := by
  intro l D ca ad p e s m args below meth c H locs la hX hY hl
  exact lv_ladd hX.1 hX.2.1 hdg (k l D ca ad p e s m args below meth c H locs la hX hY hl)
theorem zm_lsub {x y : Int64} (hdg : decode M.2.2.1 pc = .ok (.lsub, 1)) (k : zm_T SH d M Q (pc + 1) ls (.long (x - y) :: st) w) : zm_T SH d M Q pc ls (.long y :: .long x :: st) w := by
  intro l D ca ad p e s m args below meth c H locs la hX hY hl
  exact lv_lsub hX.1 hX.2.1 hdg (k l D ca ad p e s m args below meth c H locs la hX hY hl)
theorem zm_lmul {x y : Int64} (hdg : decode M.2.2.1 pc = .ok (.lmul, 1)) (k : zm_T SH d M Q (pc + 1) ls (.long (x * y) :: st) w) : zm_T SH d M Q pc ls (.long y :: .long x :: st) w := by
  intro l D ca ad p e s m args below meth c H locs la hX hY hl
  exact lv_lmul hX.1 hX.2.1 hdg (k l D ca ad p e s m args below meth c H locs la hX hY hl)
theorem zm_land {x y : Int64} (hdg : decode M.2.2.1 pc = .ok (.land, 1)) (k : zm_T SH d M Q (pc + 1) ls (.long (x &&& y) :: st) w) : zm_T SH d M Q pc ls (.long y :: .long x :: st) w := by
  intro l D ca ad p e s m args below meth c H locs la hX hY hl
  exact lv_land hX.1 hX.2.1 hdg (k l D ca ad p e s m args below meth c H locs la hX hY hl)
theorem zm_lor {x y : Int64} (hdg : decode M.2.2.1 pc = .ok (.lor, 1)) (k : zm_T SH d M Q (pc + 1) ls (.long (x ||| y) :: st) w) : zm_T SH d M Q pc ls (.long y :: .long x :: st) w := by
  intro l D ca ad p e s m args below meth c H locs la hX hY hl
  exact lv_lor hX.1 hX.2.1 hdg (k l D ca ad p e s m args below meth c H locs la hX hY hl)
theorem zm_lxor {x y : Int64} (hdg : decode M.2.2.1 pc = .ok (.lxor, 1)) (k : zm_T SH d M Q (pc + 1) ls (.long (x ^^^ y) :: st) w) : zm_T SH d M Q pc ls (.long y :: .long x :: st) w := by
  intro l D ca ad p e s m args below meth c H locs la hX hY hl
  exact lv_lxor hX.1 hX.2.1 hdg (k l D ca ad p e s m args below meth c H locs la hX hY hl)
theorem zm_idiv {x y : Int32} (hdg : decode M.2.2.1 pc = .ok (.idiv, 1)) (hne : ¬ y = 0) (k : zm_T SH d M Q (pc + 1) ls (.int (x / y) :: st) w) : zm_T SH d M Q pc ls (.int y :: .int x :: st) w := by
  intro l D ca ad p e s m args below meth c H locs la hX hY hl
  exact lv_idiv hX.1 hX.2.1 hdg hne (k l D ca ad p e s m args below meth c H locs la hX hY hl)
theorem zm_irem {x y : Int32} (hdg : decode M.2.2.1 pc = .ok (.irem, 1)) (hne : ¬ y = 0) (k : zm_T SH d M Q (pc + 1) ls (.int (x - x / y * y) :: st) w) : zm_T SH d M Q pc ls (.int y :: .int x :: st) w := by
  intro l D ca ad p e s m args below meth c H locs la hX hY hl
  exact lv_irem hX.1 hX.2.1 hdg hne (k l D ca ad p e s m args below meth c H locs la hX hY hl)
theorem zm_ldiv {x y : Int64} (hdg : decode M.2.2.1 pc = .ok (.ldiv, 1)) (hne : ¬ y = 0) (k : zm_T SH d M Q (pc + 1) ls (.long (x / y) :: st) w) : zm_T SH d M Q pc ls (.long y :: .long x :: st) w := by
  intro l D ca ad p e s m args below meth c H locs la hX hY hl
  exact lv_ldiv hX.1 hX.2.1 hdg hne (k l D ca ad p e s m args below meth c H locs la hX hY hl)
theorem zm_lrem {x y : Int64} (hdg : decode M.2.2.1 pc = .ok (.lrem, 1)) (hne : ¬ y = 0) (k : zm_T SH d M Q (pc + 1) ls (.long (x - x / y * y) :: st) w) : zm_T SH d M Q pc ls (.long y :: .long x :: st) w := by
  intro l D ca ad p e s m args below meth c H locs la hX hY hl
  exact lv_lrem hX.1 hX.2.1 hdg hne (k l D ca ad p e s m args below meth c H locs la hX hY hl)
theorem zm_iushr {x y : Int32} (hdg : decode M.2.2.1 pc = .ok (.iushr, 1)) (k : zm_T SH d M Q (pc + 1) ls (.int ((x.toUInt32 >>> (y.toUInt32 &&& Int32.toUInt32 31)).toInt32) :: st) w) : zm_T SH d M Q pc ls (.int y :: .int x :: st) w := by
  intro l D ca ad p e s m args below meth c H locs la hX hY hl
  exact lv_iushr hX.1 hX.2.1 hdg rfl (k l D ca ad p e s m args below meth c H locs la hX hY hl)
theorem zm_lushr {x : Int64} {y : Int32} (hdg : decode M.2.2.1 pc = .ok (.lushr, 1)) (k : zm_T SH d M Q (pc + 1) ls (.long ((x.toUInt64 >>> (y.toInt64.toUInt64 &&& Int64.toUInt64 63)).toInt64) :: st) w) : zm_T SH d M Q pc ls (.int y :: .long x :: st) w := by
  intro l D ca ad p e s m args below meth c H locs la hX hY hl
  exact lv_lushr hX.1 hX.2.1 hdg rfl (k l D ca ad p e s m args below meth c H locs la hX hY hl)
theorem zm_lshl {x : Int64} {y : Int32} (hdg : decode M.2.2.1 pc = .ok (.lshl, 1)) (k : zm_T SH d M Q (pc + 1) ls (.long (x <<< (y.toInt64 &&& 63)) :: st) w) : zm_T SH d M Q pc ls (.int y :: .long x :: st) w := by
  intro l D ca ad p e s m args below meth c H locs la hX hY hl
  exact lv_lshl hX.1 hX.2.1 hdg rfl (k l D ca ad p e s m args below meth c H locs la hX hY hl)
theorem zm_lcmp {x y : Int64} (hdg : decode M.2.2.1 pc = .ok (.lcmp, 1)) (k : zm_T SH d M Q (pc + 1) ls (.int (lg_cmp x y) :: st) w) : zm_T SH d M Q pc ls (.long y :: .long x :: st) w := by
  intro l D ca ad p e s m args below meth c H locs la hX hY hl
  exact W.lcmp hX.1 hX.2.1 hdg (k l D ca ad p e s m args below meth c H locs la hX hY hl)
theorem zm_i2l {x : Int32} (hdg : decode M.2.2.1 pc = .ok (.i2l, 1)) (k : zm_T SH d M Q (pc + 1) ls (.long (x.toInt64) :: st) w) : zm_T SH d M Q pc ls (.int x :: st) w := by
  intro l D ca ad p e s m args below meth c H locs la hX hY hl
  exact lv_i2l hX.1 hX.2.1 hdg rfl (k l D ca ad p e s m args below meth c H locs la hX hY hl)
theorem zm_l2i {x : Int64} (hdg : decode M.2.2.1 pc = .ok (.l2i, 1)) (k : zm_T SH d M Q (pc + 1) ls (.int (x.toInt32) :: st) w) : zm_T SH d M Q pc ls (.long x :: st) w := by
  intro l D ca ad p e s m args below meth c H locs la hX hY hl
  exact lv_l2i hX.1 hX.2.1 hdg rfl (k l D ca ad p e s m args below meth c H locs la hX hY hl)
theorem zm_i2b {x : Int32} (hdg : decode M.2.2.1 pc = .ok (.i2b, 1)) (k : zm_T SH d M Q (pc + 1) ls (.int (x.toInt8.toInt32) :: st) w) : zm_T SH d M Q pc ls (.int x :: st) w := by
  intro l D ca ad p e s m args below meth c H locs la hX hY hl
  exact lv_i2b hX.1 hX.2.1 hdg rfl (k l D ca ad p e s m args below meth c H locs la hX hY hl)
theorem zm_i2s {x : Int32} (hdg : decode M.2.2.1 pc = .ok (.i2s, 1)) (k : zm_T SH d M Q (pc + 1) ls (.int (x.toInt16.toInt32) :: st) w) : zm_T SH d M Q pc ls (.int x :: st) w := by
  intro l D ca ad p e s m args below meth c H locs la hX hY hl
  exact lv_i2s hX.1 hX.2.1 hdg rfl (k l D ca ad p e s m args below meth c H locs la hX hY hl)
theorem zm_dup {v : Value} (hdg : decode M.2.2.1 pc = .ok (.dup, 1)) (hv : v.category = 1) (k : zm_T SH d M Q (pc + 1) ls (v :: v :: st) w) : zm_T SH d M Q pc ls (v :: st) w := by
  intro l D ca ad p e s m args below meth c H locs la hX hY hl
  exact lv_dup hX.1 hX.2.1 hdg (by rw [zm_v_cat]; exact hv) (k l D ca ad p e s m args below meth c H locs la hX hY hl)
theorem zm_pop {v : Value} (hdg : decode M.2.2.1 pc = .ok (.pop, 1)) (hv : v.category = 1) (k : zm_T SH d M Q (pc + 1) ls st w) : zm_T SH d M Q pc ls (v :: st) w := by
  intro l D ca ad p e s m args below meth c H locs la hX hY hl
  exact lv_pop hX.1 hX.2.1 hdg (va := zm_v ad v) (by rw [zm_v_cat]; exact hv) (k l D ca ad p e s m args below meth c H locs la hX hY hl)
theorem zm_dup2 {v u : Value} (hdg : decode M.2.2.1 pc = .ok (.dup2, 1)) (hv : v.category = 1) (hu : u.category = 1) (k : zm_T SH d M Q (pc + 1) ls (v :: u :: v :: u :: st) w) : zm_T SH d M Q pc ls (v :: u :: st) w := by
  intro l D ca ad p e s m args below meth c H locs la hX hY hl
  exact lv_dup2_11 hX.1 hX.2.1 hdg (by rw [zm_v_cat]; exact hv) (by rw [zm_v_cat]; exact hu) (k l D ca ad p e s m args below meth c H locs la hX hY hl)
theorem zm_flt1 (ad : Nat → Nat) (i : Nat) (ls : List (Nat × Value)) : (zm_ls ad ls).filter (fun q => !(q.1 == i) && !(q.1 + 1 == i && q.2.category == 2)) = zm_ls ad (ls.filter (fun q => !(q.1 == i) && !(q.1 + 1 == i && q.2.category == 2))) := by
  simp only [zm_ls, List.filter_map]
  congr 2
  funext q
  simp [zm_v_cat]
theorem zm_flt2 (ad : Nat → Nat) (i : Nat) (ls : List (Nat × Value)) : (zm_ls ad ls).filter (fun q => !(q.1 == i) && (!(q.1 == i + 1) && !(q.1 + 1 == i && q.2.category == 2))) = zm_ls ad (ls.filter (fun q => !(q.1 == i) && (!(q.1 == i + 1) && !(q.1 + 1 == i && q.2.category == 2)))) := by
  simp only [zm_ls, List.filter_map]
  congr 2
  funext q
  simp [zm_v_cat]
theorem zm_istore {i : Nat} {x : Int32} {ls' : List (Nat × Value)} (hdg : decode M.2.2.1 pc = .ok (.istore i, 2)) (hn : i < M.2.2.2.1) (hf : (i, Value.int x) :: ls.filter (fun q => !(q.1 == i) && !(q.1 + 1 == i && q.2.category == 2)) = ls') (k : zm_T SH d M Q (pc + 2) ls' st w) : zm_T SH d M Q pc ls (.int x :: st) w := by
  intro l D ca ad p e s m args below meth c H locs la hX hY hl
  exact lv_istore hX.1 hX.2.1 hdg hl hn (by rw [zm_flt1]) (fun la' hl' => k l D ca ad p e s m args below meth c H locs la' hX hY (by rw [← hf]; exact hl'))
theorem zm_istore_n {k0 : Fin 4} {i : Nat} {x : Int32} {ls' : List (Nat × Value)} (hdg : decode M.2.2.1 pc = .ok (.istore_n k0, 1)) (hi : (k0 : Nat) = i) (hn : i < M.2.2.2.1) (hf : (i, Value.int x) :: ls.filter (fun q => !(q.1 == i) && !(q.1 + 1 == i && q.2.category == 2)) = ls') (k : zm_T SH d M Q (pc + 1) ls' st w) : zm_T SH d M Q pc ls (.int x :: st) w := by
  intro l D ca ad p e s m args below meth c H locs la hX hY hl
  exact lv_istore_n hX.1 hX.2.1 hdg hi hl hn (by rw [zm_flt1]) (fun la' hl' => k l D ca ad p e s m args below meth c H locs la' hX hY (by rw [← hf]; exact hl'))
theorem zm_astore {i : Nat} {x : Nat} {ls' : List (Nat × Value)} (hdg : decode M.2.2.1 pc = .ok (.astore i, 2)) (hn : i < M.2.2.2.1) (hf : (i, Value.ref x) :: ls.filter (fun q => !(q.1 == i) && !(q.1 + 1 == i && q.2.category == 2)) = ls') (k : zm_T SH d M Q (pc + 2) ls' st w) : zm_T SH d M Q pc ls (.ref x :: st) w := by
  intro l D ca ad p e s m args below meth c H locs la hX hY hl
  exact lv_astore hX.1 hX.2.1 hdg hl hn (by rw [zm_flt1]) (fun la' hl' => k l D ca ad p e s m args below meth c H locs la' hX hY (by rw [← hf]; exact hl'))
theorem zm_astore_n {k0 : Fin 4} {i : Nat} {x : Nat} {ls' : List (Nat × Value)} (hdg : decode M.2.2.1 pc = .ok (.astore_n k0, 1)) (hi : (k0 : Nat) = i) (hn : i < M.2.2.2.1) (hf : (i, Value.ref x) :: ls.filter (fun q => !(q.1 == i) && !(q.1 + 1 == i && q.2.category == 2)) = ls') (k : zm_T SH d M Q (pc + 1) ls' st w) : zm_T SH d M Q pc ls (.ref x :: st) w := by
  intro l D ca ad p e s m args below meth c H locs la hX hY hl
  exact lv_astore_n hX.1 hX.2.1 hdg hi hl hn (by rw [zm_flt1]) (fun la' hl' => k l D ca ad p e s m args below meth c H locs la' hX hY (by rw [← hf]; exact hl'))
theorem zm_lstore {i : Nat} {x : Int64} {ls' : List (Nat × Value)} (hdg : decode M.2.2.1 pc = .ok (.lstore i, 2)) (hn : i + 1 < M.2.2.2.1) (hf : (i, Value.long x) :: ls.filter (fun q => !(q.1 == i) && (!(q.1 == i + 1) && !(q.1 + 1 == i && q.2.category == 2))) = ls') (k : zm_T SH d M Q (pc + 2) ls' st w) : zm_T SH d M Q pc ls (.long x :: st) w := by
  intro l D ca ad p e s m args below meth c H locs la hX hY hl
  exact lv_lstore hX.1 hX.2.1 hdg hl hn (by rw [zm_flt2]) (fun la' hl' => k l D ca ad p e s m args below meth c H locs la' hX hY (by rw [← hf]; exact hl'))
theorem zm_lstore_n {k0 : Fin 4} {i : Nat} {x : Int64} {ls' : List (Nat × Value)} (hdg : decode M.2.2.1 pc = .ok (.lstore_n k0, 1)) (hi : (k0 : Nat) = i) (hn : i + 1 < M.2.2.2.1) (hf : (i, Value.long x) :: ls.filter (fun q => !(q.1 == i) && (!(q.1 == i + 1) && !(q.1 + 1 == i && q.2.category == 2))) = ls') (k : zm_T SH d M Q (pc + 1) ls' st w) : zm_T SH d M Q pc ls (.long x :: st) w := by
  intro l D ca ad p e s m args below meth c H locs la hX hY hl
  exact lv_lstore_n hX.1 hX.2.1 hdg hi hl hn (by rw [zm_flt2]) (fun la' hl' => k l D ca ad p e s m args below meth c H locs la' hX hY (by rw [← hf]; exact hl'))
theorem zm_iinc {i : Nat} {n : Int} {x v : Int32} {ls' : List (Nat × Value)} (j : Nat) (hdg : decode M.2.2.1 pc = .ok (.iinc i n, 3)) (h : ls[j]? = some (i, .int x)) (hv : x + Int32.ofInt n = v) (hn : i < M.2.2.2.1) (hf : (i, Value.int v) :: ls.filter (fun q => !(q.1 == i) && !(q.1 + 1 == i && q.2.category == 2)) = ls') (k : zm_T SH d M Q (pc + 3) ls' st w) : zm_T SH d M Q pc ls st w := by
  intro l D ca ad p e s m args below meth c H locs la hX hY hl
  exact lv_iinc hX.1 hX.2.1 hdg hl (k := j) (by simp only [zm_ls, List.getElem?_map, h]; rfl) hv hn (by rw [zm_flt1]) (fun la' hl' => k l D ca ad p e s m args below meth c H locs la' hX hY (by rw [← hf]; exact hl'))
theorem zm_goto {off : Int} (tgt : Nat) (hdg : decode M.2.2.1 pc = .ok (.goto off, 3)) (ht : (pc : Int) + off = (tgt : Int)) (k : zm_T SH d M Q tgt ls st w) : zm_T SH d M Q pc ls st w := by
  intro l D ca ad p e s m args below meth c H locs la hX hY hl
  exact lv_goto hX.1 hX.2.1 hdg ht (k l D ca ad p e s m args below meth c H locs la hX hY hl)
theorem zm_if_eq {x : Int32} {off : Int} (tgt : Nat) (hdg : decode M.2.2.1 pc = .ok (.ifCond .eq off, 3)) (ht : (pc : Int) + off = (tgt : Int)) (kt : x = 0 → zm_T SH d M Q tgt ls st w) (kf : ¬ x = 0 → zm_T SH d M Q (pc + 3) ls st w) : zm_T SH d M Q pc ls (.int x :: st) w := by
  intro l D ca ad p e s m args below meth c H locs la hX hY hl
  exact lv_if_eq hX.1 hX.2.1 hdg ht (fun h => kt h l D ca ad p e s m args below meth c H locs la hX hY hl) (fun h => kf h l D ca ad p e s m args below meth c H locs la hX hY hl)
theorem zm_icmp_eq {x y : Int32} {off : Int} (tgt : Nat) (hdg : decode M.2.2.1 pc = .ok (.if_icmp .eq off, 3)) (ht : (pc : Int) + off = (tgt : Int)) (kt : x = y → zm_T SH d M Q tgt ls st w) (kf : ¬ x = y → zm_T SH d M Q (pc + 3) ls st w) : zm_T SH d M Q pc ls (.int y :: .int x :: st) w := by
  intro l D ca ad p e s m args below meth c H locs la hX hY hl
  exact lv_icmp_eq hX.1 hX.2.1 hdg ht (fun h => kt h l D ca ad p e s m args below meth c H locs la hX hY hl) (fun h => kf h l D ca ad p e s m args below meth c H locs la hX hY hl)
theorem zm_if_ne {x : Int32} {off : Int} (tgt : Nat) (hdg : decode M.2.2.1 pc = .ok (.ifCond .ne off, 3)) (ht : (pc : Int) + off = (tgt : Int)) (kt : ¬ x = 0 → zm_T SH d M Q tgt ls st w) (kf : x = 0 → zm_T SH d M Q (pc + 3) ls st w) : zm_T SH d M Q pc ls (.int x :: st) w := by
  intro l D ca ad p e s m args below meth c H locs la hX hY hl
  exact lv_if_ne hX.1 hX.2.1 hdg ht (fun h => kt h l D ca ad p e s m args below meth c H locs la hX hY hl) (fun h => kf h l D ca ad p e s m args below meth c H locs la hX hY hl)
theorem zm_icmp_ne {x y : Int32} {off : Int} (tgt : Nat) (hdg : decode M.2.2.1 pc = .ok (.if_icmp .ne off, 3)) (ht : (pc : Int) + off = (tgt : Int)) (kt : ¬ x = y → zm_T SH d M Q tgt ls st w) (kf : x = y → zm_T SH d M Q (pc + 3) ls st w) : zm_T SH d M Q pc ls (.int y :: .int x :: st) w := by
  intro l D ca ad p e s m args below meth c H locs la hX hY hl
  exact lv_icmp_ne hX.1 hX.2.1 hdg ht (fun h => kt h l D ca ad p e s m args below meth c H locs la hX hY hl) (fun h => kf h l D ca ad p e s m args below meth c H locs la hX hY hl)
theorem zm_if_lt {x : Int32} {off : Int} (tgt : Nat) (hdg : decode M.2.2.1 pc = .ok (.ifCond .lt off, 3)) (ht : (pc : Int) + off = (tgt : Int)) (kt : x < 0 → zm_T SH d M Q tgt ls st w) (kf : ¬ x < 0 → zm_T SH d M Q (pc + 3) ls st w) : zm_T SH d M Q pc ls (.int x :: st) w := by
  intro l D ca ad p e s m args below meth c H locs la hX hY hl
  exact lv_if_lt hX.1 hX.2.1 hdg ht (fun h => kt h l D ca ad p e s m args below meth c H locs la hX hY hl) (fun h => kf h l D ca ad p e s m args below meth c H locs la hX hY hl)
theorem zm_icmp_lt {x y : Int32} {off : Int} (tgt : Nat) (hdg : decode M.2.2.1 pc = .ok (.if_icmp .lt off, 3)) (ht : (pc : Int) + off = (tgt : Int)) (kt : x < y → zm_T SH d M Q tgt ls st w) (kf : ¬ x < y → zm_T SH d M Q (pc + 3) ls st w) : zm_T SH d M Q pc ls (.int y :: .int x :: st) w := by
  intro l D ca ad p e s m args below meth c H locs la hX hY hl
  exact lv_icmp_lt hX.1 hX.2.1 hdg ht (fun h => kt h l D ca ad p e s m args below meth c H locs la hX hY hl) (fun h => kf h l D ca ad p e s m args below meth c H locs la hX hY hl)
theorem zm_if_ge {x : Int32} {off : Int} (tgt : Nat) (hdg : decode M.2.2.1 pc = .ok (.ifCond .ge off, 3)) (ht : (pc : Int) + off = (tgt : Int)) (kt : 0 ≤ x → zm_T SH d M Q tgt ls st w) (kf : ¬ 0 ≤ x → zm_T SH d M Q (pc + 3) ls st w) : zm_T SH d M Q pc ls (.int x :: st) w := by
  intro l D ca ad p e s m args below meth c H locs la hX hY hl
  exact lv_if_ge hX.1 hX.2.1 hdg ht (fun h => kt h l D ca ad p e s m args below meth c H locs la hX hY hl) (fun h => kf h l D ca ad p e s m args below meth c H locs la hX hY hl)
theorem zm_icmp_ge {x y : Int32} {off : Int} (tgt : Nat) (hdg : decode M.2.2.1 pc = .ok (.if_icmp .ge off, 3)) (ht : (pc : Int) + off = (tgt : Int)) (kt : y ≤ x → zm_T SH d M Q tgt ls st w) (kf : ¬ y ≤ x → zm_T SH d M Q (pc + 3) ls st w) : zm_T SH d M Q pc ls (.int y :: .int x :: st) w := by
  intro l D ca ad p e s m args below meth c H locs la hX hY hl
  exact lv_icmp_ge hX.1 hX.2.1 hdg ht (fun h => kt h l D ca ad p e s m args below meth c H locs la hX hY hl) (fun h => kf h l D ca ad p e s m args below meth c H locs la hX hY hl)
theorem zm_if_gt {x : Int32} {off : Int} (tgt : Nat) (hdg : decode M.2.2.1 pc = .ok (.ifCond .gt off, 3)) (ht : (pc : Int) + off = (tgt : Int)) (kt : 0 < x → zm_T SH d M Q tgt ls st w) (kf : ¬ 0 < x → zm_T SH d M Q (pc + 3) ls st w) : zm_T SH d M Q pc ls (.int x :: st) w := by
  intro l D ca ad p e s m args below meth c H locs la hX hY hl
  exact lv_if_gt hX.1 hX.2.1 hdg ht (fun h => kt h l D ca ad p e s m args below meth c H locs la hX hY hl) (fun h => kf h l D ca ad p e s m args below meth c H locs la hX hY hl)
theorem zm_icmp_gt {x y : Int32} {off : Int} (tgt : Nat) (hdg : decode M.2.2.1 pc = .ok (.if_icmp .gt off, 3)) (ht : (pc : Int) + off = (tgt : Int)) (kt : y < x → zm_T SH d M Q tgt ls st w) (kf : ¬ y < x → zm_T SH d M Q (pc + 3) ls st w) : zm_T SH d M Q pc ls (.int y :: .int x :: st) w := by
  intro l D ca ad p e s m args below meth c H locs la hX hY hl
  exact lv_icmp_gt hX.1 hX.2.1 hdg ht (fun h => kt h l D ca ad p e s m args below meth c H locs la hX hY hl) (fun h => kf h l D ca ad p e s m args below meth c H locs la hX hY hl)
theorem zm_if_le {x : Int32} {off : Int} (tgt : Nat) (hdg : decode M.2.2.1 pc = .ok (.ifCond .le off, 3)) (ht : (pc : Int) + off = (tgt : Int)) (kt : x ≤ 0 → zm_T SH d M Q tgt ls st w) (kf : ¬ x ≤ 0 → zm_T SH d M Q (pc + 3) ls st w) : zm_T SH d M Q pc ls (.int x :: st) w := by
  intro l D ca ad p e s m args below meth c H locs la hX hY hl
  exact lv_if_le hX.1 hX.2.1 hdg ht (fun h => kt h l D ca ad p e s m args below meth c H locs la hX hY hl) (fun h => kf h l D ca ad p e s m args below meth c H locs la hX hY hl)
theorem zm_icmp_le {x y : Int32} {off : Int} (tgt : Nat) (hdg : decode M.2.2.1 pc = .ok (.if_icmp .le off, 3)) (ht : (pc : Int) + off = (tgt : Int)) (kt : x ≤ y → zm_T SH d M Q tgt ls st w) (kf : ¬ x ≤ y → zm_T SH d M Q (pc + 3) ls st w) : zm_T SH d M Q pc ls (.int y :: .int x :: st) w := by
  intro l D ca ad p e s m args below meth c H locs la hX hY hl
  exact lv_icmp_le hX.1 hX.2.1 hdg ht (fun h => kt h l D ca ad p e s m args below meth c H locs la hX hY hl) (fun h => kf h l D ca ad p e s m args below meth c H locs la hX hY hl)
theorem zm_tableIn {dflt lo hi : Int} {offs : Array Int} {len : Nat} {x : Int32} {off : Int} (tgt : Nat) (hdg : decode M.2.2.1 pc = .ok (.tableswitch dflt lo hi offs, len)) (h1 : ¬ x.toInt < lo) (h2 : ¬ hi < x.toInt) (ho : offs[(x.toInt - lo).toNat]? = some off) (ht : (pc : Int) + off = (tgt : Int)) (k : zm_T SH d M Q tgt ls st w) : zm_T SH d M Q pc ls (.int x :: st) w := by
  intro l D ca ad p e s m args below meth c H locs la hX hY hl
  exact lv_tableIn hX.1 hX.2.1 hdg h1 h2 ho ht (k l D ca ad p e s m args below meth c H locs la hX hY hl)
theorem zm_tableOut {dflt lo hi : Int} {offs : Array Int} {len : Nat} {x : Int32} (tgt : Nat) (hdg : decode M.2.2.1 pc = .ok (.tableswitch dflt lo hi offs, len)) (h1 : x.toInt < lo ∨ hi < x.toInt) (ht : (pc : Int) + dflt = (tgt : Int)) (k : zm_T SH d M Q tgt ls st w) : zm_T SH d M Q pc ls (.int x :: st) w := by
  intro l D ca ad p e s m args below meth c H locs la hX hY hl
  exact lv_tableOut hX.1 hX.2.1 hdg h1 ht (k l D ca ad p e s m args below meth c H locs la hX hY hl)
theorem zm_ireturn {x : Int32} (hdg : decode M.2.2.1 pc = .ok (.ireturn, 1)) (hr : M.2.2.2.2 = some .int) (k : Q (.int x) w) : zm_T SH d M Q pc ls [.int x] w := by
  intro l D ca ad p e s m args below meth c H locs la hX hY hl
  refine W.iret hX.1 hX.2.1 (hX.2.2.2.1.trans hr) (fun t ht hW => ?_) hY.2.2.2.2 hdg hX.2.2.2.2.1
  rw [hr]
  exact ⟨⟨x, w, rfl, k, by rw [ht]; exact hY.1, va_K.moved hW.alike hX.2.2.2.2.2.2.2.2, hY.2.1⟩, hY.2.2.F ht⟩
theorem zm_zreturn {x : Int32} (hdg : decode M.2.2.1 pc = .ok (.ireturn, 1)) (hr : M.2.2.2.2 = some .boolean) (hx : x &&& 1 = x) (k : Q (.int x) w) : zm_T SH d M Q pc ls [.int x] w := by
  intro l D ca ad p e s m args below meth c H locs la hX hY hl
  refine W.zret hX.1 hX.2.1 (hX.2.2.2.1.trans hr) (by simp [narrow, hx]) (fun t ht hW => ?_) hY.2.2.2.2 hdg hX.2.2.2.2.1
  rw [hr]
  exact ⟨⟨x, w, rfl, k, by rw [ht]; exact hY.1, va_K.moved hW.alike hX.2.2.2.2.2.2.2.2, hY.2.1⟩, hY.2.2.F ht⟩
theorem zm_lreturn {x : Int64} (hdg : decode M.2.2.1 pc = .ok (.lreturn, 1)) (hr : M.2.2.2.2 = some .long) (k : Q (.long x) w) : zm_T SH d M Q pc ls [.long x] w := by
  intro l D ca ad p e s m args below meth c H locs la hX hY hl
  refine W.lret hX.1 hX.2.1 (hX.2.2.2.1.trans hr) (fun t ht hW => ?_) hY.2.2.2.2 hdg hX.2.2.2.2.1
  rw [hr]
  exact ⟨⟨x, w, rfl, k, by rw [ht]; exact hY.1, va_K.moved hW.alike hX.2.2.2.2.2.2.2.2, hY.2.1⟩, hY.2.2.F ht⟩
theorem zm_return (hdg : decode M.2.2.1 pc = .ok (.return_, 1)) (hr : M.2.2.2.2 = none) (k : Q .null w) : zm_T SH d M Q pc ls [] w := by
  intro l D ca ad p e s m args below meth c H locs la hX hY hl
  refine W.vret hX.1 hX.2.1 (hX.2.2.2.1.trans hr) (fun t ht hW => ?_) hY.2.2.2.2 hdg hX.2.2.2.2.1
  rw [hr]
  exact ⟨⟨w, rfl, k, by rw [ht]; exact hY.1, va_K.moved hW.alike hX.2.2.2.2.2.2.2.2, hY.2.1⟩, hY.2.2.F ht⟩
/-- a class of the tables: its number, its fields, their words among those that hold -/
def zm_Cl (ci : Nat) (C : String) (T : u_T) (N : Nat) : Prop := vwCl[ci]? = some (C, T, N) ∧ (∀ z ∈ u_ws C T N, z ∈ zm_tb) ∧ (∃ ty0 : Nat → FieldType, ∀ k, k < N → parseFieldDescriptor (T k).2.2.1 = some (ty0 k)) ∧ ∀ a, a < N → ∀ b, b < N → a ≠ b → (T a).2.1 ≠ (T b).2.1
/-- a field's entry in a class's pool: a word that holds, or the nest's -/
def zm_Fl (own : String) (idx : Nat) (q : String × String × String × Bool) : Prop := Cond.fieldLink own idx q.1 q.2.1 q.2.2.1 ∈ zm_tb ∨ ∃ host, Cond.fieldLinkNest own idx q.1 q.2.1 q.2.2.1 host ∈ zm_nt
theorem zm_getf {ci : Nat} {C : String} {T : u_T} {N k0 j i : Nat} {fs : List (Option Nat)} {o : Option Nat} {v : Value} (hdg : decode M.2.2.1 pc = .ok (.getfield i, 3)) (hc : zm_Cl ci C T N) (hl0 : zm_Fl M.1 i (T j)) (hj : j < N) (hs : SH[k0]? = some (.inr (ci, fs))) (ho : fs[j]? = some o) (hv : (match o with | some q => Value.ref q | none => .int (w.1 k0 j)) = v) (k : zm_T SH d M Q (pc + 3) ls (v :: st) w) : zm_T SH d M Q pc ls (.ref k0 :: st) w := by
  intro l D ca ad p e s m args below meth c H locs la hX hY hl
  have hw := zm_W_at (ca := ca) (ad := ad) (w := w) hs
  have hval : (fs.mapIdx (zm_o ad (w.1 k0)))[j]? = some (zm_v ad v) := by
    rw [List.getElem?_mapIdx, ho]
    cases o with
    | none => cases hv; rfl
    | some q => cases hv; rfl
  rcases hl0 with h | ⟨host, h⟩
  · exact va_get hX.1 hX.2.1 hX.2.2.2.2.2.2.1 hc.2.1 hX.2.2.2.2.2.1 hX.2.2.2.2.2.2.2.2 hY.1 k0 hw hc.1 j hj (hX.2.2.2.2.2.2.1 _ h) (fun _ h => h) hval hdg (k l D ca ad p e s m args below meth c H locs la hX hY hl)
  · exact va_getN hX.1 hX.2.1 hX.2.2.2.2.2.2.1 hc.2.1 hX.2.2.2.2.2.1 hX.2.2.2.2.2.2.2.2 hY.1 k0 hw hc.1 j hj (va_Nw.use rfl (hX.2.2.2.2.2.2.2.1 _ h)) (fun _ h => h) hval hdg (k l D ca ad p e s m args below meth c H locs la hX hY hl)
theorem zm_putf {ci : Nat} {C : String} {T : u_T} {N k0 j i : Nat} {fs : List (Option Nat)} {x : Int32} {ty : FieldType} (hdg : decode M.2.2.1 pc = .ok (.putfield i, 3)) (hc : zm_Cl ci C T N) (hl0 : zm_Fl M.1 i (T j)) (hj : j < N) (hs : SH[k0]? = some (.inr (ci, fs))) (ho : fs[j]? = some none) (hfin : (T j).2.2.2 = false) (hd : parseFieldDescriptor (T j).2.2.1 = some ty) (hn : narrow ty (.int x) = .int x) (hfit : fits ty (.int x) = true) (k : zm_T SH d M Q (pc + 3) ls st (zm_pi w k0 j x)) : zm_T SH d M Q pc ls (.int x :: .ref k0 :: st) w := by
  intro l D ca ad p e s m args below meth c H locs la hX hY hl
  have hw := zm_W_at (ca := ca) (ad := ad) (w := w) hs
  obtain ⟨ty0, hty0⟩ := hc.2.2.1
  have hlen : j < (fs.mapIdx (zm_o ad (w.1 k0))).length := by rw [List.length_mapIdx]; exact (List.getElem?_eq_some_iff.mp ho).1
  have hset : (zm_W SH ca ad w).set k0 (ad k0, .inr (ci, (fs.mapIdx (zm_o ad (w.1 k0))).set j (.int x))) = zm_W SH ca ad (zm_pi w k0 j x) := by
    rw [zm_o_set ho, ← zm_W_seti hs]
    rfl
  rcases hl0 with h | ⟨host, h⟩
  · refine va_put hX.1 hX.2.1 hX.2.2.2.2.2.2.1 hc.2.1 ty0 hty0 hc.2.2.2 hX.2.2.2.2.2.1 hX.2.2.2.2.2.2.2.2 hY.1 hY.2.1 hY.2.2 k0 hw hc.1 j hj (hX.2.2.2.2.2.2.1 _ h) (fun _ h => h) hfin hd hn hfit hlen hdg (fun H1 locs1 hP1 hD1 hS1 => ?_)
    exact k l D ca ad p e s m args below meth c H1 locs1 la hX ⟨by rw [← hset]; exact hP1, by rw [← hset]; exact hD1, hS1⟩ hl
  · refine va_putN hX.1 hX.2.1 hX.2.2.2.2.2.2.1 hc.2.1 ty0 hty0 hc.2.2.2 hX.2.2.2.2.2.1 hX.2.2.2.2.2.2.2.2 hY.1 hY.2.1 hY.2.2 k0 hw hc.1 j hj (va_Nw.use rfl (hX.2.2.2.2.2.2.2.1 _ h)) (fun _ h => h) hfin hd hn hfit hlen hdg (fun H1 locs1 hP1 hD1 hS1 => ?_)
    exact k l D ca ad p e s m args below meth c H1 locs1 la hX ⟨by rw [← hset]; exact hP1, by rw [← hset]; exact hD1, hS1⟩ hl
theorem zm_iald {k0 n : Nat} {i : Int32} {rs : List Nat} (hdg : decode M.2.2.1 pc = .ok (.iaload, 1)) (hs : SH[k0]? = some (.inl (.int, n, rs))) (hi : vp_in i n) (k : zm_T SH d M Q (pc + 1) ls (.int (w.1 k0 i.toNatClampNeg) :: st) w) : zm_T SH d M Q pc ls (.int i :: .ref k0 :: st) w := by
  intro l D ca ad p e s m args below meth c H locs la hX hY hl
  exact va_iald hX.1 hX.2.1 hX.2.2.2.2.2.2.2.2 hY.1 k0 0 (zm_W_at hs) rfl hi hdg (k l D ca ad p e s m args below meth c H locs la hX hY hl)
theorem zm_lald {k0 n : Nat} {i : Int32} {rs : List Nat} (hdg : decode M.2.2.1 pc = .ok (.laload, 1)) (hs : SH[k0]? = some (.inl (.long, n, rs))) (hi : vp_in i n) (k : zm_T SH d M Q (pc + 1) ls (.long (w.2 k0 i.toNatClampNeg) :: st) w) : zm_T SH d M Q pc ls (.int i :: .ref k0 :: st) w := by
  intro l D ca ad p e s m args below meth c H locs la hX hY hl
  exact va_lald hX.1 hX.2.1 hX.2.2.2.2.2.2.2.2 hY.1 k0 1 (zm_W_at hs) rfl hi hdg (k l D ca ad p e s m args below meth c H locs la hX hY hl)
theorem zm_bald {k0 n : Nat} {i : Int32} {rs : List Nat} (hdg : decode M.2.2.1 pc = .ok (.baload, 1)) (hs : SH[k0]? = some (.inl (.byte, n, rs))) (hi : vp_in i n) (k : zm_T SH d M Q (pc + 1) ls (.int (w.1 k0 i.toNatClampNeg) :: st) w) : zm_T SH d M Q pc ls (.int i :: .ref k0 :: st) w := by
  intro l D ca ad p e s m args below meth c H locs la hX hY hl
  exact va_bald hX.1 hX.2.1 hX.2.2.2.2.2.2.2.2 hY.1 k0 2 (zm_W_at hs) rfl hi hdg (k l D ca ad p e s m args below meth c H locs la hX hY hl)
theorem zm_sald {k0 n : Nat} {i : Int32} {rs : List Nat} (hdg : decode M.2.2.1 pc = .ok (.saload, 1)) (hs : SH[k0]? = some (.inl (.short, n, rs))) (hi : vp_in i n) (k : zm_T SH d M Q (pc + 1) ls (.int (w.1 k0 i.toNatClampNeg) :: st) w) : zm_T SH d M Q pc ls (.int i :: .ref k0 :: st) w := by
  intro l D ca ad p e s m args below meth c H locs la hX hY hl
  exact va_sald hX.1 hX.2.1 hX.2.2.2.2.2.2.2.2 hY.1 k0 3 (zm_W_at hs) rfl hi hdg (k l D ca ad p e s m args below meth c H locs la hX hY hl)
theorem zm_zald {k0 n : Nat} {i : Int32} {rs : List Nat} (hdg : decode M.2.2.1 pc = .ok (.baload, 1)) (hs : SH[k0]? = some (.inl (.boolean, n, rs))) (hi : vp_in i n) (k : zm_T SH d M Q (pc + 1) ls (.int (w.1 k0 i.toNatClampNeg) :: st) w) : zm_T SH d M Q pc ls (.int i :: .ref k0 :: st) w := by
  intro l D ca ad p e s m args below meth c H locs la hX hY hl
  exact va_zald hX.1 hX.2.1 hX.2.2.2.2.2.2.2.2 hY.1 k0 4 (zm_W_at hs) rfl hi hdg (k l D ca ad p e s m args below meth c H locs la hX hY hl)
theorem zm_iast {k0 n : Nat} {i x : Int32} {rs : List Nat} (hdg : decode M.2.2.1 pc = .ok (.iastore, 1)) (hs : SH[k0]? = some (.inl (.int, n, rs))) (hi : vp_in i n) (k : zm_T SH d M Q (pc + 1) ls st (zm_pi w k0 i.toNatClampNeg x)) : zm_T SH d M Q pc ls (.int x :: .int i :: .ref k0 :: st) w := by
  intro l D ca ad p e s m args below meth c H locs la hX hY hl
  refine va_iast hX.1 hX.2.1 hX.2.2.2.2.2.2.2.2 hY.1 hY.2.1 hY.2.2 k0 0 (zm_W_at hs) rfl hi hdg (fun H1 locs1 hP1 hD1 hS1 => ?_)
  have hset := zm_W_seti (ca := ca) (ad := ad) (w := w) hs (upd (w.1 k0) i.toNatClampNeg x)
  exact k l D ca ad p e s m args below meth c H1 locs1 la hX ⟨by rw [← hset]; exact hP1, by rw [← hset]; exact hD1, hS1⟩ hl
theorem zm_bast {k0 n : Nat} {i x : Int32} {rs : List Nat} (hdg : decode M.2.2.1 pc = .ok (.bastore, 1)) (hs : SH[k0]? = some (.inl (.byte, n, rs))) (hi : vp_in i n) (k : zm_T SH d M Q (pc + 1) ls st (zm_pi w k0 i.toNatClampNeg (vp_nar .byte x))) : zm_T SH d M Q pc ls (.int x :: .int i :: .ref k0 :: st) w := by
  intro l D ca ad p e s m args below meth c H locs la hX hY hl
  refine va_bast hX.1 hX.2.1 hX.2.2.2.2.2.2.2.2 hY.1 hY.2.1 hY.2.2 k0 2 (zm_W_at hs) rfl hi hdg (fun H1 locs1 hP1 hD1 hS1 => ?_)
  have hset := zm_W_seti (ca := ca) (ad := ad) (w := w) hs (upd (w.1 k0) i.toNatClampNeg (vp_nar .byte x))
  exact k l D ca ad p e s m args below meth c H1 locs1 la hX ⟨by rw [← hset]; exact hP1, by rw [← hset]; exact hD1, hS1⟩ hl
theorem zm_sast {k0 n : Nat} {i x : Int32} {rs : List Nat} (hdg : decode M.2.2.1 pc = .ok (.sastore, 1)) (hs : SH[k0]? = some (.inl (.short, n, rs))) (hi : vp_in i n) (k : zm_T SH d M Q (pc + 1) ls st (zm_pi w k0 i.toNatClampNeg (vp_nar .short x))) : zm_T SH d M Q pc ls (.int x :: .int i :: .ref k0 :: st) w := by
  intro l D ca ad p e s m args below meth c H locs la hX hY hl
  refine va_sast hX.1 hX.2.1 hX.2.2.2.2.2.2.2.2 hY.1 hY.2.1 hY.2.2 k0 3 (zm_W_at hs) rfl hi hdg (fun H1 locs1 hP1 hD1 hS1 => ?_)
  have hset := zm_W_seti (ca := ca) (ad := ad) (w := w) hs (upd (w.1 k0) i.toNatClampNeg (vp_nar .short x))
  exact k l D ca ad p e s m args below meth c H1 locs1 la hX ⟨by rw [← hset]; exact hP1, by rw [← hset]; exact hD1, hS1⟩ hl
theorem zm_zast {k0 n : Nat} {i x : Int32} {rs : List Nat} (hdg : decode M.2.2.1 pc = .ok (.bastore, 1)) (hs : SH[k0]? = some (.inl (.boolean, n, rs))) (hi : vp_in i n) (k : zm_T SH d M Q (pc + 1) ls st (zm_pi w k0 i.toNatClampNeg (vp_nar .boolean x))) : zm_T SH d M Q pc ls (.int x :: .int i :: .ref k0 :: st) w := by
  intro l D ca ad p e s m args below meth c H locs la hX hY hl
  refine va_zast hX.1 hX.2.1 hX.2.2.2.2.2.2.2.2 hY.1 hY.2.1 hY.2.2 k0 4 (zm_W_at hs) rfl hi hdg (fun H1 locs1 hP1 hD1 hS1 => ?_)
  have hset := zm_W_seti (ca := ca) (ad := ad) (w := w) hs (upd (w.1 k0) i.toNatClampNeg (vp_nar .boolean x))
  exact k l D ca ad p e s m args below meth c H1 locs1 la hX ⟨by rw [← hset]; exact hP1, by rw [← hset]; exact hD1, hS1⟩ hl
theorem zm_last {k0 n : Nat} {i : Int32} {x : Int64} {rs : List Nat} (hdg : decode M.2.2.1 pc = .ok (.lastore, 1)) (hs : SH[k0]? = some (.inl (.long, n, rs))) (hi : vp_in i n) (k : zm_T SH d M Q (pc + 1) ls st (zm_pl w k0 i.toNatClampNeg x)) : zm_T SH d M Q pc ls (.long x :: .int i :: .ref k0 :: st) w := by
  intro l D ca ad p e s m args below meth c H locs la hX hY hl
  refine va_last hX.1 hX.2.1 hX.2.2.2.2.2.2.2.2 hY.1 hY.2.1 hY.2.2 k0 1 (zm_W_at hs) rfl hi hdg (fun H1 locs1 hP1 hD1 hS1 => ?_)
  have hset := zm_W_setl (ca := ca) (ad := ad) (w := w) hs (vp_updL (w.2 k0) i.toNatClampNeg x)
  exact k l D ca ad p e s m args below meth c H1 locs1 la hX ⟨by rw [← hset]; exact hP1, by rw [← hset]; exact hD1, hS1⟩ hl
theorem zm_aald {k0 n q : Nat} {i : Int32} {rs : List Nat} (hdg : decode M.2.2.1 pc = .ok (.aaload, 1)) (hs : SH[k0]? = some (.inl ((.object RX5), n, rs))) (hi : vp_in i n) (hq : rs[i.toNatClampNeg]? = some q) (k : zm_T SH d M Q (pc + 1) ls (.ref q :: st) w) : zm_T SH d M Q pc ls (.int i :: .ref k0 :: st) w := by
  intro l D ca ad p e s m args below meth c H locs la hX hY hl
  have hlt : i.toNatClampNeg < n := Nat.not_le.mp fun z => hi (Or.inr z)
  have hv : va_rf ((rs[i.toNatClampNeg]?).map ad) = .ref (ad q) := by rw [hq]; rfl
  exact W.aald (v := .ref (ad q)) (ty := (.object RX5)) hX.1 hX.2.1 (hY.1 k0 _ (zm_W_at hs)) ((hX.2.2.2.2.2.2.2.2.2 5 _ rfl).1 n (fun j => va_rf ((rs[j]?).map ad))) rfl (fun z => by cases z) (by show ¬ (i < 0 ∨ (arrV _ _ _).slots.size ≤ _); rw [arrV_size]; exact hi) (by show (arrV _ _ _).slots[_]? = _; rw [arrV_read _ _ hlt, hv]) rfl rfl hdg (k l D ca ad p e s m args below meth c H locs la hX hY hl)
theorem zm_gald {k0 n q : Nat} {i : Int32} {rs : List Nat} (hdg : decode M.2.2.1 pc = .ok (.aaload, 1)) (hs : SH[k0]? = some (.inl ((.array .int), n, rs))) (hi : vp_in i n) (hq : rs[i.toNatClampNeg]? = some q) (k : zm_T SH d M Q (pc + 1) ls (.ref q :: st) w) : zm_T SH d M Q pc ls (.int i :: .ref k0 :: st) w := by
  intro l D ca ad p e s m args below meth c H locs la hX hY hl
  have hlt : i.toNatClampNeg < n := Nat.not_le.mp fun z => hi (Or.inr z)
  have hv : va_rf ((rs[i.toNatClampNeg]?).map ad) = .ref (ad q) := by rw [hq]; rfl
  exact W.aald (v := .ref (ad q)) (ty := (.array .int)) hX.1 hX.2.1 (hY.1 k0 _ (zm_W_at hs)) ((hX.2.2.2.2.2.2.2.2.2 6 _ rfl).1 n (fun j => va_rf ((rs[j]?).map ad))) rfl (fun z => by cases z) (by show ¬ (i < 0 ∨ (arrV _ _ _).slots.size ≤ _); rw [arrV_size]; exact hi) (by show (arrV _ _ _).slots[_]? = _; rw [arrV_read _ _ hlt, hv]) rfl rfl hdg (k l D ca ad p e s m args below meth c H locs la hX hY hl)
theorem zm_alen {k0 n : Nat} {v : Int32} {rs : List Nat} (hdg : decode M.2.2.1 pc = .ok (.arraylength, 1)) (hs : SH[k0]? = some (.inl (.int, n, rs))) (hv : Int32.ofNat n = v) (k : zm_T SH d M Q (pc + 1) ls (.int v :: st) w) : zm_T SH d M Q pc ls (.ref k0 :: st) w := by
  intro l D ca ad p e s m args below meth c H locs la hX hY hl
  exact va_alen hX.1 hX.2.1 hX.2.2.2.2.2.2.2.2 hY.1 k0 0 (zm_W_at hs) rfl hv hdg (k l D ca ad p e s m args below meth c H locs la hX hY hl)
theorem zm_good {z : Cond} (h : z ∈ zm_tb) : GoodIn zm_tb (z :: zm_tb) := by
  have key : ∀ x ∈ zm_tb, x ∈ zm_tb ∧ ((x.onTables && x.keeps) = true ∨ ∃ ty, x = .arrayClass ty) := fun x hx => ⟨hx, good_of_word (List.mem_filter.mp hx).2⟩
  intro x hx
  rcases List.mem_cons.mp hx with rfl | hx
  · exact key _ h
  · exact key _ hx
theorem zm_nt_tab {z : Cond} (h : z ∈ zm_nt) : z.onTables = true := by
  have h2 := (List.mem_filter.mp h).2
  cases z <;> first | rfl | (simp [zm_isN] at h2)
theorem zm_nt_same {u U : State} (h : u.vm = U.vm) (hN : ∀ z ∈ zm_nt, va_Nw z u) : ∀ z ∈ zm_nt, va_Nw z U := fun z hz => va_Nw.same (zm_nt_tab hz) h (hN z hz)
theorem zm_nt_warm {u U : State} (h : u.WarmedH U.vm) (hN : ∀ z ∈ zm_nt, va_Nw z u) : ∀ z ∈ zm_nt, va_Nw z U := fun z hz => by
  have h2 := (List.mem_filter.mp hz).2
  have h3 := hN z hz
  cases z <;> first | exact va_Nw.warmF h h3 | exact va_Nw.warmM h h3 | (simp [zm_isN] at h2)
/-- what the tables say of a method; n: how many parameters -/
def zm_Mt (N : zm_M) (n : Nat) : Prop := N.2.1.cls = N.1 ∧ Cond.code N.2.1 N.2.2.1 N.2.2.2.1 N.2.2.2.2 ∈ zm_tb ∧ Cond.initialized N.2.1.cls ∈ zm_tb ∧ (N.2.1.cls ≠ "java/lang/invoke/MethodHandle" ∧ N.2.1.cls ≠ "java/lang/invoke/VarHandle") ∧ (parseMethodDescriptor N.2.1.desc).map (fun q => q.parameters.length) = some n ∧ N.2.2.2.1 ≤ 40 ∧ plainName N.2.1.cls = true
def zm_Mv (N : zm_M) (n : Nat) : Prop := zm_Mt N n ∧ Cond.instanceMethod N.2.1 ∈ zm_tb ∧ Cond.selects N.1 N.2.1 N.2.1 ∈ zm_tb
def zm_Ms (N : zm_M) (n : Nat) : Prop := zm_Mt N n ∧ Cond.static N.2.1 ∈ zm_tb
theorem zm_cB {N : zm_M} {n idx : Nat} {args : Array Value} {s : State} {own : String} (hN : zm_Mt N n) (hl : Cond.methodLink own idx N.2.1 ∈ zm_tb) (hts : ∀ z ∈ zm_tb, z.before args s = true) : CallB (zm_R (d + 1)) s args own idx N.2.1 N.2.2.1 N.2.2.2.1 N.2.2.2.2 (Cond.code N.2.1 N.2.2.1 N.2.2.2.1 N.2.2.2.2 :: zm_tb) (zm_R d) 0 0 n :=
  callB_of n hts (zm_good hN.2.1) rfl rfl rfl (hts _ hN.2.2.1) (hts _ hl) ⟨hN.2.2.2.1.1, hN.2.2.2.1.2, hN.2.2.2.2.1⟩ ⟨Nat.le_refl _, by have := hN.2.2.2.2.2.1; show 8 + (N.2.2.2.1 + 11) + 70 * (d + 1) ≤ 70 * (d + 1 + 1); omega⟩
theorem zm_blind {SH : List zm_H} {D : va_G} {ca : FieldType → ClassId} {ad : Nat → Nat} {w : zm_S} {av : List Value} {sz : Nat} : FrameBlind (va_Pc av (fun U => U.heap.size = sz ∧ va_P D vwCl (zm_W SH ca ad w) U.heap ∧ va_K D vwCl (zm_ty ca) U ∧ va_D (fun _ => True) (zm_W SH ca ad w) ∧ ∀ z ∈ zm_nt, va_Nw z U)) := fun a U g mk q => by
  obtain ⟨q0, q1, qP, qK, qD, qN⟩ := q
  exact ⟨q0, q1, qP, va_K.moved (u := U) (U := U.calling g mk a) (Vm.Alike.refl U.vm) qK, qD, zm_nt_same (u := U) (U := U.calling g mk a) rfl qN⟩
theorem zm_st_app (ad : Nat → Nat) (a b : List Value) : zm_st ad (a ++ b) = zm_st ad a ++ zm_st ad b := List.map_append
theorem zm_st_rev (ad : Nat → Nat) (a : List Value) : zm_st ad a.reverse = (zm_st ad a).reverse := List.map_reverse
theorem zm_st_cat (ad : Nat → Nat) : ∀ a : List Value, ((zm_st ad a).map fun v => v.category).sum = (a.map fun v => v.category).sum
  | [] => rfl
  | v :: a => by
    show (zm_v ad v).category + ((zm_st ad a).map fun v => v.category).sum = v.category + (a.map fun v => v.category).sum
    rw [zm_v_cat, zm_st_cat ad a]
theorem zm_callVv {N : zm_M} {k0 idx n ci : Nat} {as rest : List Value} {fs : List (Option Nat)} {C : String} {T : u_T} {Nf : Nat} {Q' : Value → zm_S → Prop} (hdg : decode M.2.2.1 pc = .ok (.invokevirtual idx, 3)) (hst : st = as.reverse ++ .ref k0 :: rest) (hN : zm_Mv N n) (hlk : Cond.methodLink M.1 idx N.2.1 ∈ zm_tb) (hs : SH[k0]? = some (.inr (ci, fs))) (hcl : vwCl[ci]? = some (C, T, Nf)) (hCn : C = N.1) (hn : as.length = n) (hrm : (rest.map fun v => v.category).sum ≤ 8) (hC : zm_C SH d N (.ref k0 :: as) w Q') (hr : N.2.2.2.2 = none) (k : ∀ (u : zm_S), Q' .null u → zm_T SH (d + 1) M Q (pc + 3) ls rest u) : zm_T SH (d + 1) M Q pc ls st w := by
  intro l D ca ad p e s m args below meth c H locs la hX hY hl
  have hsub : ∀ q, zm_A SH ad H.size q → zm_A SH ad s.heap.size q := fun q h => h.elim (fun h => Or.inl h) (fun h => Or.inr (Nat.le_trans hY.2.2.1 h))
  have hrun := va_runV (As := zm_st ad as) (rest := zm_st ad rest) (C := C) ⟨hX.1, hX.2.1, hX.2.2.1, hX.2.2.2.2.2.1, hX.2.2.2.2.2.2.1⟩ (hC l D ca ad H.size) ⟨zm_cB hN.1 hlk hX.2.2.2.2.2.2.1, hX.2.2.2.2.2.2.1 _ hN.2.1, by rw [hCn]; exact hX.2.2.2.2.2.2.1 _ hN.2.2⟩ ⟨zm_blind, va_recv hX.2.2.2.2.2.2.2.2 hY.1 hcl (zm_W_at hs), fun U hU hW => ⟨rfl, by rw [hU], by rw [hU]; exact hY.1, va_K.moved hW.alike hX.2.2.2.2.2.2.2.2, hY.2.1.weaken (fun _ _ _ _ => trivial), zm_nt_warm hW hX.2.2.2.2.2.2.2.1⟩⟩ rfl (by rw [zm_st, List.length_map]; exact hn) hl.1 (by rw [hst, zm_st_app, zm_st_rev]; rfl) (lv_room (by rw [zm_st_cat]; exact hrm)) hdg ⟨Nat.le_refl _, Nat.le_refl _⟩ (g := F0 m pc la (zm_st ad st)) (p := p) (e := e) (below := below) (meth := meth) (locs := locs) (cells := 0) (slots := 0)
  have hqq : zm_Q SH D ca ad N.2.2.2.2 Q' (zm_A SH ad H.size) = va_Qv (fun u => Q' .null u) (zm_B SH D ca ad (zm_A SH ad H.size)) (zm_A SH ad H.size) := by rw [hr]; rfl
  rw [hqq] at hrun
  refine va_callv hrun hY.2.2 (fun q _ h => hsub q h) hsub (fun u t H1 locs1 ht hvm hpost hB hz1 hk1 hS1 => ?_)
  obtain ⟨hP1, hK1, hD1⟩ := hB
  exact k u hpost l D ca ad p e s m args below meth c H1 locs1 la hX ⟨by rw [← ht]; exact hP1, zm_D_self hD1, hS1⟩ hl
theorem zm_callVi {N : zm_M} {k0 idx n ci : Nat} {as rest : List Value} {fs : List (Option Nat)} {C : String} {T : u_T} {Nf : Nat} {Q' : Value → zm_S → Prop} (hdg : decode M.2.2.1 pc = .ok (.invokevirtual idx, 3)) (hst : st = as.reverse ++ .ref k0 :: rest) (hN : zm_Mv N n) (hlk : Cond.methodLink M.1 idx N.2.1 ∈ zm_tb) (hs : SH[k0]? = some (.inr (ci, fs))) (hcl : vwCl[ci]? = some (C, T, Nf)) (hCn : C = N.1) (hn : as.length = n) (hrm : (rest.map fun v => v.category).sum ≤ 8) (hC : zm_C SH d N (.ref k0 :: as) w Q') (hr : N.2.2.2.2 = some .int) (k : ∀ (r : Int32) (u : zm_S), Q' (.int r) u → zm_T SH (d + 1) M Q (pc + 3) ls (.int r :: rest) u) : zm_T SH (d + 1) M Q pc ls st w := by
  intro l D ca ad p e s m args below meth c H locs la hX hY hl
  have hsub : ∀ q, zm_A SH ad H.size q → zm_A SH ad s.heap.size q := fun q h => h.elim (fun h => Or.inl h) (fun h => Or.inr (Nat.le_trans hY.2.2.1 h))
  have hrun := va_runV (As := zm_st ad as) (rest := zm_st ad rest) (C := C) ⟨hX.1, hX.2.1, hX.2.2.1, hX.2.2.2.2.2.1, hX.2.2.2.2.2.2.1⟩ (hC l D ca ad H.size) ⟨zm_cB hN.1 hlk hX.2.2.2.2.2.2.1, hX.2.2.2.2.2.2.1 _ hN.2.1, by rw [hCn]; exact hX.2.2.2.2.2.2.1 _ hN.2.2⟩ ⟨zm_blind, va_recv hX.2.2.2.2.2.2.2.2 hY.1 hcl (zm_W_at hs), fun U hU hW => ⟨rfl, by rw [hU], by rw [hU]; exact hY.1, va_K.moved hW.alike hX.2.2.2.2.2.2.2.2, hY.2.1.weaken (fun _ _ _ _ => trivial), zm_nt_warm hW hX.2.2.2.2.2.2.2.1⟩⟩ rfl (by rw [zm_st, List.length_map]; exact hn) hl.1 (by rw [hst, zm_st_app, zm_st_rev]; rfl) (lv_room (by rw [zm_st_cat]; exact hrm)) hdg ⟨Nat.le_refl _, Nat.le_refl _⟩ (g := F0 m pc la (zm_st ad st)) (p := p) (e := e) (below := below) (meth := meth) (locs := locs) (cells := 0) (slots := 0)
  have hqq : zm_Q SH D ca ad N.2.2.2.2 Q' (zm_A SH ad H.size) = va_Qi (fun r u => Q' (.int r) u) (zm_B SH D ca ad (zm_A SH ad H.size)) (zm_A SH ad H.size) := by rw [hr]; rfl
  rw [hqq] at hrun
  refine va_calli hrun hY.2.2 (fun q _ h => hsub q h) hsub (fun r u t H1 locs1 ht hvm hpost hB hz1 hk1 hS1 => ?_)
  obtain ⟨hP1, hK1, hD1⟩ := hB
  exact k r u hpost l D ca ad p e s m args below meth c H1 locs1 la hX ⟨by rw [← ht]; exact hP1, zm_D_self hD1, hS1⟩ hl
theorem zm_callVz {N : zm_M} {k0 idx n ci : Nat} {as rest : List Value} {fs : List (Option Nat)} {C : String} {T : u_T} {Nf : Nat} {Q' : Value → zm_S → Prop} (hdg : decode M.2.2.1 pc = .ok (.invokevirtual idx, 3)) (hst : st = as.reverse ++ .ref k0 :: rest) (hN : zm_Mv N n) (hlk : Cond.methodLink M.1 idx N.2.1 ∈ zm_tb) (hs : SH[k0]? = some (.inr (ci, fs))) (hcl : vwCl[ci]? = some (C, T, Nf)) (hCn : C = N.1) (hn : as.length = n) (hrm : (rest.map fun v => v.category).sum ≤ 8) (hC : zm_C SH d N (.ref k0 :: as) w Q') (hr : N.2.2.2.2 = some .boolean) (k : ∀ (r : Int32) (u : zm_S), Q' (.int r) u → zm_T SH (d + 1) M Q (pc + 3) ls (.int r :: rest) u) : zm_T SH (d + 1) M Q pc ls st w := by
  intro l D ca ad p e s m args below meth c H locs la hX hY hl
  have hsub : ∀ q, zm_A SH ad H.size q → zm_A SH ad s.heap.size q := fun q h => h.elim (fun h => Or.inl h) (fun h => Or.inr (Nat.le_trans hY.2.2.1 h))
  have hrun := va_runV (As := zm_st ad as) (rest := zm_st ad rest) (C := C) ⟨hX.1, hX.2.1, hX.2.2.1, hX.2.2.2.2.2.1, hX.2.2.2.2.2.2.1⟩ (hC l D ca ad H.size) ⟨zm_cB hN.1 hlk hX.2.2.2.2.2.2.1, hX.2.2.2.2.2.2.1 _ hN.2.1, by rw [hCn]; exact hX.2.2.2.2.2.2.1 _ hN.2.2⟩ ⟨zm_blind, va_recv hX.2.2.2.2.2.2.2.2 hY.1 hcl (zm_W_at hs), fun U hU hW => ⟨rfl, by rw [hU], by rw [hU]; exact hY.1, va_K.moved hW.alike hX.2.2.2.2.2.2.2.2, hY.2.1.weaken (fun _ _ _ _ => trivial), zm_nt_warm hW hX.2.2.2.2.2.2.2.1⟩⟩ rfl (by rw [zm_st, List.length_map]; exact hn) hl.1 (by rw [hst, zm_st_app, zm_st_rev]; rfl) (lv_room (by rw [zm_st_cat]; exact hrm)) hdg ⟨Nat.le_refl _, Nat.le_refl _⟩ (g := F0 m pc la (zm_st ad st)) (p := p) (e := e) (below := below) (meth := meth) (locs := locs) (cells := 0) (slots := 0)
  have hqq : zm_Q SH D ca ad N.2.2.2.2 Q' (zm_A SH ad H.size) = va_Qi (fun r u => Q' (.int r) u) (zm_B SH D ca ad (zm_A SH ad H.size)) (zm_A SH ad H.size) := by rw [hr]; rfl
  rw [hqq] at hrun
  refine va_calli hrun hY.2.2 (fun q _ h => hsub q h) hsub (fun r u t H1 locs1 ht hvm hpost hB hz1 hk1 hS1 => ?_)
  obtain ⟨hP1, hK1, hD1⟩ := hB
  exact k r u hpost l D ca ad p e s m args below meth c H1 locs1 la hX ⟨by rw [← ht]; exact hP1, zm_D_self hD1, hS1⟩ hl
theorem zm_callVl {N : zm_M} {k0 idx n ci : Nat} {as rest : List Value} {fs : List (Option Nat)} {C : String} {T : u_T} {Nf : Nat} {Q' : Value → zm_S → Prop} (hdg : decode M.2.2.1 pc = .ok (.invokevirtual idx, 3)) (hst : st = as.reverse ++ .ref k0 :: rest) (hN : zm_Mv N n) (hlk : Cond.methodLink M.1 idx N.2.1 ∈ zm_tb) (hs : SH[k0]? = some (.inr (ci, fs))) (hcl : vwCl[ci]? = some (C, T, Nf)) (hCn : C = N.1) (hn : as.length = n) (hrm : (rest.map fun v => v.category).sum ≤ 8) (hC : zm_C SH d N (.ref k0 :: as) w Q') (hr : N.2.2.2.2 = some .long) (k : ∀ (r : Int64) (u : zm_S), Q' (.long r) u → zm_T SH (d + 1) M Q (pc + 3) ls (.long r :: rest) u) : zm_T SH (d + 1) M Q pc ls st w := by
  intro l D ca ad p e s m args below meth c H locs la hX hY hl
  have hsub : ∀ q, zm_A SH ad H.size q → zm_A SH ad s.heap.size q := fun q h => h.elim (fun h => Or.inl h) (fun h => Or.inr (Nat.le_trans hY.2.2.1 h))
  have hrun := va_runV (As := zm_st ad as) (rest := zm_st ad rest) (C := C) ⟨hX.1, hX.2.1, hX.2.2.1, hX.2.2.2.2.2.1, hX.2.2.2.2.2.2.1⟩ (hC l D ca ad H.size) ⟨zm_cB hN.1 hlk hX.2.2.2.2.2.2.1, hX.2.2.2.2.2.2.1 _ hN.2.1, by rw [hCn]; exact hX.2.2.2.2.2.2.1 _ hN.2.2⟩ ⟨zm_blind, va_recv hX.2.2.2.2.2.2.2.2 hY.1 hcl (zm_W_at hs), fun U hU hW => ⟨rfl, by rw [hU], by rw [hU]; exact hY.1, va_K.moved hW.alike hX.2.2.2.2.2.2.2.2, hY.2.1.weaken (fun _ _ _ _ => trivial), zm_nt_warm hW hX.2.2.2.2.2.2.2.1⟩⟩ rfl (by rw [zm_st, List.length_map]; exact hn) hl.1 (by rw [hst, zm_st_app, zm_st_rev]; rfl) (lv_room (by rw [zm_st_cat]; exact hrm)) hdg ⟨Nat.le_refl _, Nat.le_refl _⟩ (g := F0 m pc la (zm_st ad st)) (p := p) (e := e) (below := below) (meth := meth) (locs := locs) (cells := 0) (slots := 0)
  have hqq : zm_Q SH D ca ad N.2.2.2.2 Q' (zm_A SH ad H.size) = va_Ql (fun r u => Q' (.long r) u) (zm_B SH D ca ad (zm_A SH ad H.size)) (zm_A SH ad H.size) := by rw [hr]; rfl
  rw [hqq] at hrun
  refine va_calll hrun hY.2.2 (fun q _ h => hsub q h) hsub (fun r u t H1 locs1 ht hvm hpost hB hz1 hk1 hS1 => ?_)
  obtain ⟨hP1, hK1, hD1⟩ := hB
  exact k r u hpost l D ca ad p e s m args below meth c H1 locs1 la hX ⟨by rw [← ht]; exact hP1, zm_D_self hD1, hS1⟩ hl
theorem zm_callSv {N : zm_M} {idx n : Nat} {as rest : List Value} {Q' : Value → zm_S → Prop} (hdg : decode M.2.2.1 pc = .ok (.invokestatic idx, 3)) (hst : st = as.reverse ++ rest) (hN : zm_Ms N n) (hlk : Cond.methodLink M.1 idx N.2.1 ∈ zm_tb) (hn : as.length = n) (hrm : (rest.map fun v => v.category).sum ≤ 8) (hC : zm_C SH d N as w Q') (hr : N.2.2.2.2 = none) (k : ∀ (u : zm_S), Q' .null u → zm_T SH (d + 1) M Q (pc + 3) ls rest u) : zm_T SH (d + 1) M Q pc ls st w := by
  intro l D ca ad p e s m args below meth c H locs la hX hY hl
  have hsub : ∀ q, zm_A SH ad H.size q → zm_A SH ad s.heap.size q := fun q h => h.elim (fun h => Or.inl h) (fun h => Or.inr (Nat.le_trans hY.2.2.1 h))
  have hrun := va_runS (As := zm_st ad as) (rest := zm_st ad rest) ⟨hX.1, hX.2.1, hX.2.2.1, hX.2.2.2.2.2.1, hX.2.2.2.2.2.2.1⟩ (hC l D ca ad H.size) ⟨zm_cB hN.1 hlk hX.2.2.2.2.2.2.1, hX.2.2.2.2.2.2.1 _ hN.2⟩ ⟨zm_blind, fun U hU hW => ⟨rfl, by rw [hU], by rw [hU]; exact hY.1, va_K.moved hW.alike hX.2.2.2.2.2.2.2.2, hY.2.1.weaken (fun _ _ _ _ => trivial), zm_nt_warm hW hX.2.2.2.2.2.2.2.1⟩⟩ rfl (by rw [zm_st, List.length_map]; exact hn) hl.1 (by rw [hst, zm_st_app, zm_st_rev]) (lv_room (by rw [zm_st_cat]; exact hrm)) hdg ⟨Nat.le_refl _, Nat.le_refl _⟩ (g := F0 m pc la (zm_st ad st)) (p := p) (e := e) (below := below) (meth := meth) (locs := locs) (cells := 0) (slots := 0)
  have hqq : zm_Q SH D ca ad N.2.2.2.2 Q' (zm_A SH ad H.size) = va_Qv (fun u => Q' .null u) (zm_B SH D ca ad (zm_A SH ad H.size)) (zm_A SH ad H.size) := by rw [hr]; rfl
  rw [hqq] at hrun
  refine va_callv hrun hY.2.2 (fun q _ h => hsub q h) hsub (fun u t H1 locs1 ht hvm hpost hB hz1 hk1 hS1 => ?_)
  obtain ⟨hP1, hK1, hD1⟩ := hB
  exact k u hpost l D ca ad p e s m args below meth c H1 locs1 la hX ⟨by rw [← ht]; exact hP1, zm_D_self hD1, hS1⟩ hl
theorem zm_callSi {N : zm_M} {idx n : Nat} {as rest : List Value} {Q' : Value → zm_S → Prop} (hdg : decode M.2.2.1 pc = .ok (.invokestatic idx, 3)) (hst : st = as.reverse ++ rest) (hN : zm_Ms N n) (hlk : Cond.methodLink M.1 idx N.2.1 ∈ zm_tb) (hn : as.length = n) (hrm : (rest.map fun v => v.category).sum ≤ 8) (hC : zm_C SH d N as w Q') (hr : N.2.2.2.2 = some .int) (k : ∀ (r : Int32) (u : zm_S), Q' (.int r) u → zm_T SH (d + 1) M Q (pc + 3) ls (.int r :: rest) u) : zm_T SH (d + 1) M Q pc ls st w := by
  intro l D ca ad p e s m args below meth c H locs la hX hY hl
  have hsub : ∀ q, zm_A SH ad H.size q → zm_A SH ad s.heap.size q := fun q h => h.elim (fun h => Or.inl h) (fun h => Or.inr (Nat.le_trans hY.2.2.1 h))
  have hrun := va_runS (As := zm_st ad as) (rest := zm_st ad rest) ⟨hX.1, hX.2.1, hX.2.2.1, hX.2.2.2.2.2.1, hX.2.2.2.2.2.2.1⟩ (hC l D ca ad H.size) ⟨zm_cB hN.1 hlk hX.2.2.2.2.2.2.1, hX.2.2.2.2.2.2.1 _ hN.2⟩ ⟨zm_blind, fun U hU hW => ⟨rfl, by rw [hU], by rw [hU]; exact hY.1, va_K.moved hW.alike hX.2.2.2.2.2.2.2.2, hY.2.1.weaken (fun _ _ _ _ => trivial), zm_nt_warm hW hX.2.2.2.2.2.2.2.1⟩⟩ rfl (by rw [zm_st, List.length_map]; exact hn) hl.1 (by rw [hst, zm_st_app, zm_st_rev]) (lv_room (by rw [zm_st_cat]; exact hrm)) hdg ⟨Nat.le_refl _, Nat.le_refl _⟩ (g := F0 m pc la (zm_st ad st)) (p := p) (e := e) (below := below) (meth := meth) (locs := locs) (cells := 0) (slots := 0)
  have hqq : zm_Q SH D ca ad N.2.2.2.2 Q' (zm_A SH ad H.size) = va_Qi (fun r u => Q' (.int r) u) (zm_B SH D ca ad (zm_A SH ad H.size)) (zm_A SH ad H.size) := by rw [hr]; rfl
  rw [hqq] at hrun
  refine va_calli hrun hY.2.2 (fun q _ h => hsub q h) hsub (fun r u t H1 locs1 ht hvm hpost hB hz1 hk1 hS1 => ?_)
  obtain ⟨hP1, hK1, hD1⟩ := hB
  exact k r u hpost l D ca ad p e s m args below meth c H1 locs1 la hX ⟨by rw [← ht]; exact hP1, zm_D_self hD1, hS1⟩ hl
theorem zm_callSz {N : zm_M} {idx n : Nat} {as rest : List Value} {Q' : Value → zm_S → Prop} (hdg : decode M.2.2.1 pc = .ok (.invokestatic idx, 3)) (hst : st = as.reverse ++ rest) (hN : zm_Ms N n) (hlk : Cond.methodLink M.1 idx N.2.1 ∈ zm_tb) (hn : as.length = n) (hrm : (rest.map fun v => v.category).sum ≤ 8) (hC : zm_C SH d N as w Q') (hr : N.2.2.2.2 = some .boolean) (k : ∀ (r : Int32) (u : zm_S), Q' (.int r) u → zm_T SH (d + 1) M Q (pc + 3) ls (.int r :: rest) u) : zm_T SH (d + 1) M Q pc ls st w := by
  intro l D ca ad p e s m args below meth c H locs la hX hY hl
  have hsub : ∀ q, zm_A SH ad H.size q → zm_A SH ad s.heap.size q := fun q h => h.elim (fun h => Or.inl h) (fun h => Or.inr (Nat.le_trans hY.2.2.1 h))
  have hrun := va_runS (As := zm_st ad as) (rest := zm_st ad rest) ⟨hX.1, hX.2.1, hX.2.2.1, hX.2.2.2.2.2.1, hX.2.2.2.2.2.2.1⟩ (hC l D ca ad H.size) ⟨zm_cB hN.1 hlk hX.2.2.2.2.2.2.1, hX.2.2.2.2.2.2.1 _ hN.2⟩ ⟨zm_blind, fun U hU hW => ⟨rfl, by rw [hU], by rw [hU]; exact hY.1, va_K.moved hW.alike hX.2.2.2.2.2.2.2.2, hY.2.1.weaken (fun _ _ _ _ => trivial), zm_nt_warm hW hX.2.2.2.2.2.2.2.1⟩⟩ rfl (by rw [zm_st, List.length_map]; exact hn) hl.1 (by rw [hst, zm_st_app, zm_st_rev]) (lv_room (by rw [zm_st_cat]; exact hrm)) hdg ⟨Nat.le_refl _, Nat.le_refl _⟩ (g := F0 m pc la (zm_st ad st)) (p := p) (e := e) (below := below) (meth := meth) (locs := locs) (cells := 0) (slots := 0)
  have hqq : zm_Q SH D ca ad N.2.2.2.2 Q' (zm_A SH ad H.size) = va_Qi (fun r u => Q' (.int r) u) (zm_B SH D ca ad (zm_A SH ad H.size)) (zm_A SH ad H.size) := by rw [hr]; rfl
  rw [hqq] at hrun
  refine va_calli hrun hY.2.2 (fun q _ h => hsub q h) hsub (fun r u t H1 locs1 ht hvm hpost hB hz1 hk1 hS1 => ?_)
  obtain ⟨hP1, hK1, hD1⟩ := hB
  exact k r u hpost l D ca ad p e s m args below meth c H1 locs1 la hX ⟨by rw [← ht]; exact hP1, zm_D_self hD1, hS1⟩ hl
theorem zm_callSl {N : zm_M} {idx n : Nat} {as rest : List Value} {Q' : Value → zm_S → Prop} (hdg : decode M.2.2.1 pc = .ok (.invokestatic idx, 3)) (hst : st = as.reverse ++ rest) (hN : zm_Ms N n) (hlk : Cond.methodLink M.1 idx N.2.1 ∈ zm_tb) (hn : as.length = n) (hrm : (rest.map fun v => v.category).sum ≤ 8) (hC : zm_C SH d N as w Q') (hr : N.2.2.2.2 = some .long) (k : ∀ (r : Int64) (u : zm_S), Q' (.long r) u → zm_T SH (d + 1) M Q (pc + 3) ls (.long r :: rest) u) : zm_T SH (d + 1) M Q pc ls st w := by
  intro l D ca ad p e s m args below meth c H locs la hX hY hl
  have hsub : ∀ q, zm_A SH ad H.size q → zm_A SH ad s.heap.size q := fun q h => h.elim (fun h => Or.inl h) (fun h => Or.inr (Nat.le_trans hY.2.2.1 h))
  have hrun := va_runS (As := zm_st ad as) (rest := zm_st ad rest) ⟨hX.1, hX.2.1, hX.2.2.1, hX.2.2.2.2.2.1, hX.2.2.2.2.2.2.1⟩ (hC l D ca ad H.size) ⟨zm_cB hN.1 hlk hX.2.2.2.2.2.2.1, hX.2.2.2.2.2.2.1 _ hN.2⟩ ⟨zm_blind, fun U hU hW => ⟨rfl, by rw [hU], by rw [hU]; exact hY.1, va_K.moved hW.alike hX.2.2.2.2.2.2.2.2, hY.2.1.weaken (fun _ _ _ _ => trivial), zm_nt_warm hW hX.2.2.2.2.2.2.2.1⟩⟩ rfl (by rw [zm_st, List.length_map]; exact hn) hl.1 (by rw [hst, zm_st_app, zm_st_rev]) (lv_room (by rw [zm_st_cat]; exact hrm)) hdg ⟨Nat.le_refl _, Nat.le_refl _⟩ (g := F0 m pc la (zm_st ad st)) (p := p) (e := e) (below := below) (meth := meth) (locs := locs) (cells := 0) (slots := 0)
  have hqq : zm_Q SH D ca ad N.2.2.2.2 Q' (zm_A SH ad H.size) = va_Ql (fun r u => Q' (.long r) u) (zm_B SH D ca ad (zm_A SH ad H.size)) (zm_A SH ad H.size) := by rw [hr]; rfl
  rw [hqq] at hrun
  refine va_calll hrun hY.2.2 (fun q _ h => hsub q h) hsub (fun r u t H1 locs1 ht hvm hpost hB hz1 hk1 hS1 => ?_)
  obtain ⟨hP1, hK1, hD1⟩ := hB
  exact k r u hpost l D ca ad p e s m args below meth c H1 locs1 la hX ⟨by rw [← ht]; exact hP1, zm_D_self hD1, hS1⟩ hl
theorem zm_alenl {k0 n : Nat} {v : Int32} {rs : List Nat} (hdg : decode M.2.2.1 pc = .ok (.arraylength, 1)) (hs : SH[k0]? = some (.inl (.long, n, rs))) (hv : Int32.ofNat n = v) (k : zm_T SH d M Q (pc + 1) ls (.int v :: st) w) : zm_T SH d M Q pc ls (.ref k0 :: st) w := by
  intro l D ca ad p e s m args below meth c H locs la hX hY hl
  exact va_alen hX.1 hX.2.1 hX.2.2.2.2.2.2.2.2 hY.1 k0 1 (zm_W_at hs) rfl hv hdg (k l D ca ad p e s m args below meth c H locs la hX hY hl)
theorem zm_copy {k0 k1 n0 n1 idx : Nat} {sp dp n : Int32} {rs0 rs1 : List Nat} (hdg : decode M.2.2.1 pc = .ok (.invokestatic idx, 3)) (hlk : Cond.methodLink M.1 idx arraycopyName ∈ zm_tb) (hac : Cond.native arraycopyName ∈ zm_tb ∧ Cond.static arraycopyName ∈ zm_tb ∧ Cond.initialized "java/lang/System" ∈ zm_tb) (hs0 : SH[k0]? = some (.inl (.int, n0, rs0))) (hs1 : SH[k1]? = some (.inl (.int, n1, rs1))) (h1 : ¬ sp < 0) (h2 : ¬ dp < 0) (h3 : ¬ n < 0) (h4 : sp.toNatClampNeg + n.toNatClampNeg ≤ n0) (h5 : dp.toNatClampNeg + n.toNatClampNeg ≤ n1) (hrm : (st.map fun v => v.category).sum ≤ 8)
    (k : zm_T SH d M Q (pc + 3) ls st (zm_pa w k1 (va_cpy (w.1 k0) (w.1 k1) sp.toNatClampNeg dp.toNatClampNeg n.toNatClampNeg))) : zm_T SH d M Q pc ls (.int n :: .int dp :: .ref k1 :: .int sp :: .ref k0 :: st) w := by
  intro l D ca ad p e s m args below meth c H locs la hX hY hl
  have hw : nativeFrameWords "java/lang/System" "arraycopy" 5 + 11 ≤ 60 := by decide +kernel
  refine va_copyi hX.1 hX.2.1 (hX.2.2.1.trans hl.1.symm) hX.2.2.2.2.2.1 (hX.2.2.2.2.2.2.1 _ hlk) (hX.2.2.2.2.2.2.1 _ hac.1) (hX.2.2.2.2.2.2.1 _ hac.2.1) (hX.2.2.2.2.2.2.1 _ hac.2.2) hX.2.2.2.2.2.2.2.2 hY.1 hY.2.1 hY.2.2 k0 k1 0 0 (zm_W_at hs0) (zm_W_at hs1) rfl rfl rfl h1 h2 h3 h4 h5 (fun _ _ => rfl) (Nat.succ_pos d) ?_ hdg (fun H1 locs1 hP1 hD1 hS1 => ?_)
  · show ((zm_st ad st).map fun v => v.category).sum + _ ≤ 70 * (d + 1)
    rw [zm_st_cat]
    omega
  · have hset := zm_W_seti (ca := ca) (ad := ad) (w := w) hs1 (va_cpy (w.1 k0) (w.1 k1) sp.toNatClampNeg dp.toNatClampNeg n.toNatClampNeg)
    exact k l D ca ad p e s m args below meth c H1 locs1 la hX ⟨by rw [← hset]; exact hP1, by rw [← hset]; exact hD1, hS1⟩ hl
theorem zm_mmin {idx : Nat} {x y : Int32} (hdg : decode M.2.2.1 pc = .ok (.invokestatic idx, 3)) (hlk : Cond.methodLink M.1 idx Lib.Math.min.name ∈ zm_tb) (hac : Cond.static Lib.Math.min.name ∈ zm_tb ∧ Cond.initialized "java/lang/Math" ∈ zm_tb ∧ Cond.code Lib.Math.min.name Lib.Math.min.code 2 (some .int) ∈ zm_tb) (hrm : (st.map fun v => v.category).sum ≤ 8) (k : zm_T SH d M Q (pc + 3) ls (.int (if y < x then y else x) :: st) w) : zm_T SH d M Q pc ls (.int y :: .int x :: st) w := by
  intro l D ca ad p e s m args below meth c H locs la hX hY hl
  refine va_mmin (R := zm_R d) hX.1 hX.2.1 (hX.2.2.1.trans hl.1.symm) hX.2.2.2.2.2.1 (hX.2.2.2.2.2.2.1 _ hlk) (hX.2.2.2.2.2.2.1 _ hac.1) (hX.2.2.2.2.2.2.1 _ hac.2.1) (hX.2.2.2.2.2.2.1 _ hac.2.2) (Nat.succ_pos d) ?_ (Nat.le_refl _) (Nat.le_refl _) hdg (k l D ca ad p e s m args below meth c H locs la hX hY hl)
  show ((zm_st ad st).map fun v => v.category).sum + 13 ≤ 70 * (d + 1)
  rw [zm_st_cat]
  omega
theorem zm_mmax {idx : Nat} {x y : Int32} (hdg : decode M.2.2.1 pc = .ok (.invokestatic idx, 3)) (hlk : Cond.methodLink M.1 idx Lib.Math.max.name ∈ zm_tb) (hac : Cond.static Lib.Math.max.name ∈ zm_tb ∧ Cond.initialized "java/lang/Math" ∈ zm_tb ∧ Cond.code Lib.Math.max.name Lib.Math.max.code 2 (some .int) ∈ zm_tb) (hrm : (st.map fun v => v.category).sum ≤ 8) (k : zm_T SH d M Q (pc + 3) ls (.int (if x < y then y else x) :: st) w) : zm_T SH d M Q pc ls (.int y :: .int x :: st) w := by
  intro l D ca ad p e s m args below meth c H locs la hX hY hl
  refine va_mmax (R := zm_R d) hX.1 hX.2.1 (hX.2.2.1.trans hl.1.symm) hX.2.2.2.2.2.1 (hX.2.2.2.2.2.2.1 _ hlk) (hX.2.2.2.2.2.2.1 _ hac.1) (hX.2.2.2.2.2.2.1 _ hac.2.1) (hX.2.2.2.2.2.2.1 _ hac.2.2) (Nat.succ_pos d) ?_ (Nat.le_refl _) (Nat.le_refl _) hdg (k l D ca ad p e s m args below meth c H locs la hX hY hl)
  show ((zm_st ad st).map fun v => v.category).sum + 13 ≤ 70 * (d + 1)
  rw [zm_st_cat]
  omega
theorem zm_callSNz {N : zm_M} {idx n : Nat} {host : String} {as rest : List Value} {Q' : Value → zm_S → Prop} (hdg : decode M.2.2.1 pc = .ok (.invokestatic idx, 3)) (hst : st = as.reverse ++ rest) (hN : zm_Ms N n) (hlk : Cond.methodLinkNest M.1 idx N.2.1 host ∈ zm_nt) (hn : as.length = n) (hrm : (rest.map fun v => v.category).sum ≤ 8) (hC : zm_C SH d N as w Q') (hr : N.2.2.2.2 = some .boolean) (k : ∀ (r : Int32) (u : zm_S), Q' (.int r) u → zm_T SH (d + 1) M Q (pc + 3) ls (.int r :: rest) u) : zm_T SH (d + 1) M Q pc ls st w := by
  intro l D ca ad p e s m args below meth c H locs la hX hY hl
  have hsub : ∀ q, zm_A SH ad H.size q → zm_A SH ad s.heap.size q := fun q h => h.elim (fun h => Or.inl h) (fun h => Or.inr (Nat.le_trans hY.2.2.1 h))
  have hrun := va_runSN (R := zm_R (d + 1)) (As := zm_st ad as) (rest := zm_st ad rest) ⟨hX.1, hX.2.1, hX.2.2.1, hX.2.2.2.2.2.1, hX.2.2.2.2.2.2.1⟩ (hC l D ca ad H.size) ⟨va_cnB n hX.2.2.2.2.2.2.1 (zm_good hN.1.2.1) rfl rfl rfl (hX.2.2.2.2.2.2.2.1 _ hlk) (hX.2.2.2.2.2.2.1 _ hN.1.2.2.1) ⟨hN.1.2.2.2.1.1, hN.1.2.2.2.1.2, hN.1.2.2.2.2.1⟩ ⟨Nat.le_refl _, by have := hN.1.2.2.2.2.2.1; show 8 + (N.2.2.2.1 + 11) + 70 * (d + 1) ≤ 70 * (d + 1 + 1); omega⟩, hX.2.2.2.2.2.2.1 _ hN.2, trivial⟩ ⟨zm_blind, fun U hU hW => ⟨rfl, by rw [hU], by rw [hU]; exact hY.1, va_K.moved hW.alike hX.2.2.2.2.2.2.2.2, hY.2.1.weaken (fun _ _ _ _ => trivial), zm_nt_warm hW hX.2.2.2.2.2.2.2.1⟩⟩ rfl (by rw [zm_st, List.length_map]; exact hn) hl.1 (by rw [hst, zm_st_app, zm_st_rev]) (lv_room (by rw [zm_st_cat]; exact hrm)) hdg ⟨Nat.le_refl _, Nat.le_refl _⟩ (g := F0 m pc la (zm_st ad st)) (p := p) (e := e) (below := below) (meth := meth) (locs := locs) (cells := 0) (slots := 0)
  have hqq : zm_Q SH D ca ad N.2.2.2.2 Q' (zm_A SH ad H.size) = va_Qi (fun r u => Q' (.int r) u) (zm_B SH D ca ad (zm_A SH ad H.size)) (zm_A SH ad H.size) := by rw [hr]; rfl
  rw [hqq] at hrun
  refine va_calli hrun hY.2.2 (fun q _ h => hsub q h) hsub (fun r u t H1 locs1 ht hvm hpost hB hz1 hk1 hS1 => ?_)
  obtain ⟨hP1, hK1, hD1⟩ := hB
  exact k r u hpost l D ca ad p e s m args below meth c H1 locs1 la hX ⟨by rw [← ht]; exact hP1, zm_D_self hD1, hS1⟩ hl
end ZM
