/-! ===== making: a constructor's walk; ws: the cells that it has and makes, in the order of their making ===== -/
def zb_AO (U : State) : Prop := va_AO RX5 U ∧ (Cond.arrayOver (.array .int)).before #[] U = true
theorem zb_AA.moved {t : FieldType} {u U : State} (hvm : u.vm.Alike U.vm) (h : (Cond.arrayOver (.array t)).before #[] u = true) : (Cond.arrayOver (.array t)).before #[] U = true := by
  obtain ⟨comp, c, k, h1, h2, h3, h4, h5⟩ := arrayOverA_spec h
  obtain ⟨k', hk', he⟩ := hvm.2.2 _ _ h3
  have hi : (U.vm.classes.findIdx? fun (x : Class) => match x.kind with | .array component _ => component == comp | _ => false) = some c := (hvm.findIdx?_eq _ (fun _ => rfl)).trans h2
  have hkind : k'.kind = .array comp (.array t) := by rw [he]; exact h4
  have f1 : U.vm.findClass (FieldType.array t).toString = some comp := by rw [hvm.findClass]; exact h1
  have f2 : U.vm.findClass ("[" ++ (FieldType.array t).toString) = some c := by rw [hvm.findClass]; exact h5
  unfold Cond.before Cond.holds
  simp only [Cond.value]
  rw [f1, Option.bind_some]
  refine (congrArg (fun o : Option Nat => (o.bind (fun c => (U.vm.classes[c]?).map fun (k : Class) => match k.kind with | .array _ ty => decide (ty = FieldType.array t) && decide (U.vm.findClass ("[" ++ (FieldType.array t).toString) = some c) | _ => false) == some true)) hi).trans ?_
  simp [hk', hkind, f2]
theorem zb_AO.moved {u U : State} (hvm : u.vm.Alike U.vm) (h : zb_AO u) : zb_AO U := ⟨h.1.moved hvm, zb_AA.moved hvm h.2⟩
/-- what a constructor makes of a raw object at h0: the cells SH, from h0 on, with w in them -/
def zb_C (N : zm_M) (R : Room) (ci : Nat) (fs : List Value) (SH : List zm_H) (w : zm_S) : Prop :=
  ∀ (l : Launch) (D : va_G) (ca : FieldType → ClassId) (h0 sz : Nat), Met l N.2.1 (Cond.code N.2.1 N.2.2.1 N.2.2.2.1 N.2.2.2.2 :: zm_tb) R
    (va_Pc [.ref h0] (fun U => U.heap.size = sz ∧ va_P D vwCl [(h0, .inr (ci, fs))] U.heap ∧ va_K D vwCl (zm_ty ca) U ∧ va_D (fun _ => True) [(h0, .inr (ci, fs))] ∧ (∀ z ∈ zm_nt, va_Nw z U) ∧ zb_AO U))
    (va_Qv (fun ad : Nat → Nat => ad 0 = h0) (fun ad t => va_P D vwCl (zm_W SH ca ad w) t.heap ∧ va_D (va_A [(h0, .inr (ci, fs))] sz) (zm_W SH ca ad w)) (va_A [(h0, .inr (ci, fs))] sz)) R.cells R.slots (va_A [(h0, .inr (ci, fs))] sz)
theorem zb_blind {D : va_G} {ca : FieldType → ClassId} {av : List Value} {sz : Nat} {ws : va_W} : FrameBlind (va_Pc av (fun U => U.heap.size = sz ∧ va_P D vwCl ws U.heap ∧ va_K D vwCl (zm_ty ca) U ∧ va_D (fun _ => True) ws ∧ (∀ z ∈ zm_nt, va_Nw z U) ∧ zb_AO U)) := fun a U g mk q => by
  obtain ⟨q0, q1, qP, qK, qD, qN, qO⟩ := q
  exact ⟨q0, q1, qP, va_K.moved (u := U) (U := U.calling g mk a) (Vm.Alike.refl U.vm) qK, qD, zm_nt_same (u := U) (U := U.calling g mk a) rfl qN, zb_AO.moved (u := U) (U := U.calling g mk a) (Vm.Alike.refl U.vm) qO⟩
def zb_X (M : zm_M) (D : va_G) (ca : FieldType → ClassId) (p : Program) (s : State) (m : MethodId) (args : Array Value) (meth : Method) (c : Code) : Prop := zm_X M D ca p s m args meth c ∧ meth.name = "<init>" ∧ zb_AO s
def zb_T (M : zm_M) (R : Room) (l : Launch) (D : va_G) (p : Program) (e : Env) (s : State) (m : MethodId) (args : Array Value) (below : List Frame) (meth : Method) (c : Code) (A : Nat → Prop) (Z : State → Prop) (pc : Nat) (ls : List (Nat × Value)) (st : List Value) (ws : va_W) (k n : Nat) : Prop :=
  ∀ (H : Heap) (locs : List Loc) (la : Array Slot), va_P D vwCl ws H → va_D A ws → va_S A s.heap H locs → lv_has la M.2.2.2.1 ls → W p l e R s m args below meth c H locs k n Z (F0 m pc la st)
theorem zb_join {A0 : Nat → Prop} {D : va_G} {R C w1 : va_W} {H H1 : Heap} (hP : va_P D vwCl (R ++ C) H) (hD : va_D A0 (R ++ C)) (hk : ∀ q : Nat, q < H.size → ¬ va_A C H.size q → H1[q]? = H[q]?) (hF : ∀ q, va_A C H.size q → A0 q) (hP1 : va_P D vwCl w1 H1) (hD1 : va_D (va_A C H.size) w1) : va_P D vwCl (R ++ w1) H1 ∧ va_D A0 (R ++ w1) := by
  have at' : ∀ (k : Nat) (q : Nat × va_E), R[k]? = some q → (R ++ C)[k]? = some q := fun k q h => by
    rw [List.getElem?_append_left (List.getElem?_eq_some_iff.mp h).1]
    exact h
  have apart : ∀ (k : Nat) (q : Nat × va_E), R[k]? = some q → q.1 < H.size ∧ ¬ va_A C H.size q.1 := by
    intro k q hq
    have hl := (hP k q (at' k q hq)).lt
    refine ⟨hl, fun h => ?_⟩
    rcases h with ⟨k2, e, h⟩ | h
    · have h3 : (R ++ C)[R.length + k2]? = some (q.1, e) := by
        rw [List.getElem?_append_right (by omega), show R.length + k2 - R.length = k2 by omega]
        exact h
      have := hD.1 k (R.length + k2) q (q.1, e) (at' k q hq) h3 rfl
      have := (List.getElem?_eq_some_iff.mp hq).1
      omega
    · omega
  refine ⟨va_P.app (fun k q hq => (hP k q (at' k q hq)).kept (hk q.1 (apart k q hq).1 (apart k q hq).2)) hP1, va_D.app ⟨fun i j x y hx hy hxy => hD.1 i j x y (at' i x hx) (at' j y hy) hxy, fun k q hq => hD.2 k q (at' k q hq)⟩ (hD1.weaken (fun k q _ h => hF q.1 h)) (fun i j x y hx hy hxy => ?_)⟩
  exact (apart i x hx).2 (by rw [hxy]; exact hD1.2 j y hy)
section ZB
variable {M : zm_M} {R : Room} {l : Launch} {D : va_G} {ca : FieldType → ClassId} {p : Program} {e : Env} {s : State} {m : MethodId} {args : Array Value} {below : List Frame} {meth : Method} {c : Code} {A : Nat → Prop} {Z : State → Prop} {pc : Nat} {ls : List (Nat × Value)} {st : List Value} {ws : va_W} {k n : Nat}
theorem zb_ws {ws' : va_W} (h : ws = ws') (kk : zb_T M R l D p e s m args below meth c A Z pc ls st ws' k n) : zb_T M R l D p e s m args below meth c A Z pc ls st ws k n := h ▸ kk
theorem zb_aload0 {x : Nat} (j : Nat) (hX : zb_X M D ca p s m args meth c) (hdg : decode M.2.2.1 pc = .ok (.aload_n 0, 1)) (h : ls[j]? = some (0, .ref x)) (kk : zb_T M R l D p e s m args below meth c A Z (pc + 1) ls (.ref x :: st) ws k n) : zb_T M R l D p e s m args below meth c A Z pc ls st ws k n := by
  intro H locs la hP hD hS hl
  exact lv_aload_n hX.1.1 hX.1.2.1 hdg rfl (lv_at hl j h) (kk H locs la hP hD hS hl)
theorem zb_iload_n {k0 : Fin 4} {i : Nat} {x : Int32} (j : Nat) (hX : zb_X M D ca p s m args meth c) (hdg : decode M.2.2.1 pc = .ok (.iload_n k0, 1)) (hi : (k0 : Nat) = i) (h : ls[j]? = some (i, .int x)) (kk : zb_T M R l D p e s m args below meth c A Z (pc + 1) ls (.int x :: st) ws k n) : zb_T M R l D p e s m args below meth c A Z pc ls st ws k n := by
  intro H locs la hP hD hS hl
  exact lv_iload_n hX.1.1 hX.1.2.1 hdg hi (lv_at hl j h) (kk H locs la hP hD hS hl)
theorem zb_istore_n {k0 : Fin 4} {i : Nat} {x : Int32} {ls' : List (Nat × Value)} (hX : zb_X M D ca p s m args meth c) (hdg : decode M.2.2.1 pc = .ok (.istore_n k0, 1)) (hi : (k0 : Nat) = i) (hn : i < M.2.2.2.1) (hl' : (i, Value.int x) :: ls.filter (fun q => !(q.1 == i) && !(q.1 + 1 == i && q.2.category == 2)) = ls') (kk : zb_T M R l D p e s m args below meth c A Z (pc + 1) ls' st ws k n) : zb_T M R l D p e s m args below meth c A Z pc ls (.int x :: st) ws k n := by
  intro H locs la hP hD hS hl
  exact lv_istore_n hX.1.1 hX.1.2.1 hdg hi hl hn hl' (fun la hl => kk H locs la hP hD hS hl)
theorem zb_iinc {i j : Nat} {d : Int} {x v : Int32} {ls' : List (Nat × Value)} (hX : zb_X M D ca p s m args meth c) (hdg : decode M.2.2.1 pc = .ok (.iinc i d, 3)) (hj : ls[j]? = some (i, .int x)) (hv : x + Int32.ofInt d = v) (hn : i < M.2.2.2.1) (hl' : (i, Value.int v) :: ls.filter (fun q => !(q.1 == i) && !(q.1 + 1 == i && q.2.category == 2)) = ls') (kk : zb_T M R l D p e s m args below meth c A Z (pc + 3) ls' st ws k n) : zb_T M R l D p e s m args below meth c A Z pc ls st ws k n := by
  intro H locs la hP hD hS hl
  exact lv_iinc hX.1.1 hX.1.2.1 hdg hl hj hv hn hl' (fun la hl => kk H locs la hP hD hS hl)
theorem zb_iconst {z : Int} {v : Int32} (hX : zb_X M D ca p s m args meth c) (hdg : decode M.2.2.1 pc = .ok (.iconst z, 1)) (hv : Int32.ofInt z = v) (kk : zb_T M R l D p e s m args below meth c A Z (pc + 1) ls (.int v :: st) ws k n) : zb_T M R l D p e s m args below meth c A Z pc ls st ws k n := by
  intro H locs la hP hD hS hl
  exact lv_iconst hX.1.1 hX.1.2.1 hdg hv (kk H locs la hP hD hS hl)
theorem zb_bipush {z : Int} {v : Int32} (hX : zb_X M D ca p s m args meth c) (hdg : decode M.2.2.1 pc = .ok (.bipush z, 2)) (hv : (Int8.ofInt z).toInt32 = v) (kk : zb_T M R l D p e s m args below meth c A Z (pc + 2) ls (.int v :: st) ws k n) : zb_T M R l D p e s m args below meth c A Z pc ls st ws k n := by
  intro H locs la hP hD hS hl
  exact lv_bipush hX.1.1 hX.1.2.1 hdg hv (kk H locs la hP hD hS hl)
theorem zb_sipush {z : Int} {v : Int32} (hX : zb_X M D ca p s m args meth c) (hdg : decode M.2.2.1 pc = .ok (.sipush z, 3)) (hv : (Int16.ofInt z).toInt32 = v) (kk : zb_T M R l D p e s m args below meth c A Z (pc + 3) ls (.int v :: st) ws k n) : zb_T M R l D p e s m args below meth c A Z pc ls st ws k n := by
  intro H locs la hP hD hS hl
  exact lv_sipush hX.1.1 hX.1.2.1 hdg hv (kk H locs la hP hD hS hl)
theorem zb_dup {v : Value} (hX : zb_X M D ca p s m args meth c) (hdg : decode M.2.2.1 pc = .ok (.dup, 1)) (hv : v.category = 1) (kk : zb_T M R l D p e s m args below meth c A Z (pc + 1) ls (v :: v :: st) ws k n) : zb_T M R l D p e s m args below meth c A Z pc ls (v :: st) ws k n := by
  intro H locs la hP hD hS hl
  exact lv_dup hX.1.1 hX.1.2.1 hdg hv (kk H locs la hP hD hS hl)
theorem zb_goto {off : Int} (tgt : Nat) (hX : zb_X M D ca p s m args meth c) (hdg : decode M.2.2.1 pc = .ok (.goto off, 3)) (ht : (pc : Int) + off = (tgt : Int)) (kk : zb_T M R l D p e s m args below meth c A Z tgt ls st ws k n) : zb_T M R l D p e s m args below meth c A Z pc ls st ws k n := by
  intro H locs la hP hD hS hl
  exact lv_goto hX.1.1 hX.1.2.1 hdg ht (kk H locs la hP hD hS hl)
theorem zb_icmp_ge {x y : Int32} {off : Int} (tgt : Nat) (hX : zb_X M D ca p s m args meth c) (hdg : decode M.2.2.1 pc = .ok (.if_icmp .ge off, 3)) (ht : (pc : Int) + off = (tgt : Int)) (kt : y ≤ x → zb_T M R l D p e s m args below meth c A Z tgt ls st ws k n) (kf : ¬ y ≤ x → zb_T M R l D p e s m args below meth c A Z (pc + 3) ls st ws k n) : zb_T M R l D p e s m args below meth c A Z pc ls (.int y :: .int x :: st) ws k n := by
  intro H locs la hP hD hS hl
  exact lv_icmp_ge hX.1.1 hX.1.2.1 hdg ht (fun h => kt h H locs la hP hD hS hl) (fun h => kf h H locs la hP hD hS hl)
theorem zb_obj {idx a : Nat} (hX : zb_X M D ca p s m args meth c) (hdg : decode M.2.2.1 pc = .ok (.invokespecial idx, 3)) (hlk : Cond.methodLink M.1 idx Lib.objectInit ∈ zm_tb) (hin : Cond.instanceMethod Lib.objectInit ∈ zm_tb ∧ Cond.code Lib.objectInit ⟨#[0xb1]⟩ 1 none ∈ zm_tb) (hR : 1 ≤ R.frames ∧ 12 ≤ R.locals) (kk : zb_T M R l D p e s m args below meth c A Z (pc + 3) ls [] ws k n) : zb_T M R l D p e s m args below meth c A Z pc ls [.ref a] ws k n := by
  intro H locs la hP hD hS hl
  refine W.objInit hX.1.1 hX.1.2.1 hX.1.2.2.2.2.2.1 (hX.1.2.2.2.2.2.2.1 _ hlk) (hX.1.2.2.2.2.2.2.1 _ hin.1) (hX.1.2.2.2.2.2.2.1 _ hin.2) rfl (hl.1.trans hX.1.2.2.1.symm) rfl hdg hR.1 hR.2 ?_
  exact kk H locs la hP hD hS hl
theorem zb_getf {ci : Nat} {C : String} {T : u_T} {N a q0 j i : Nat} {fs : List Value} {v : Value} (hX : zb_X M D ca p s m args meth c) (hdg : decode M.2.2.1 pc = .ok (.getfield i, 3)) (hc : zm_Cl ci C T N) (hl0 : Cond.fieldLink M.1 i (T j).1 (T j).2.1 (T j).2.2.1 ∈ zm_tb) (hj : j < N) (he : ws[q0]? = some (a, .inr (ci, fs))) (hv : fs[j]? = some v) (kk : zb_T M R l D p e s m args below meth c A Z (pc + 3) ls (v :: st) ws k n) : zb_T M R l D p e s m args below meth c A Z pc ls (.ref a :: st) ws k n := by
  intro H locs la hP hD hS hl
  exact va_get hX.1.1 hX.1.2.1 hX.1.2.2.2.2.2.2.1 hc.2.1 hX.1.2.2.2.2.2.1 hX.1.2.2.2.2.2.2.2.2 hP q0 he hc.1 j hj (hX.1.2.2.2.2.2.2.1 _ hl0) (fun _ h => h) hv hdg (kk H locs la hP hD hS hl)
theorem zb_put {ci : Nat} {C : String} {T : u_T} {N a q0 j i : Nat} {fs : List Value} {v : Value} {ty : FieldType} (hX : zb_X M D ca p s m args meth c) (hdg : decode M.2.2.1 pc = .ok (.putfield i, 3)) (hc : zm_Cl ci C T N) (hl0 : Cond.fieldLink M.1 i (T j).1 (T j).2.1 (T j).2.2.1 ∈ zm_tb) (hj : j < N) (he : ws[q0]? = some (a, .inr (ci, fs))) (hfin : (T j).2.2.2 = false) (hd : parseFieldDescriptor (T j).2.2.1 = some ty) (hn : narrow ty v = v) (hfit : fits ty v = true) (hlen : j < fs.length) (kk : zb_T M R l D p e s m args below meth c A Z (pc + 3) ls st (ws.set q0 (a, .inr (ci, fs.set j v))) k n) : zb_T M R l D p e s m args below meth c A Z pc ls (v :: .ref a :: st) ws k n := by
  intro H locs la hP hD hS hl
  obtain ⟨ty0, hty0⟩ := hc.2.2.1
  exact va_put hX.1.1 hX.1.2.1 hX.1.2.2.2.2.2.2.1 hc.2.1 ty0 hty0 hc.2.2.2 hX.1.2.2.2.2.2.1 hX.1.2.2.2.2.2.2.2.2 hP hD hS q0 he hc.1 j hj (hX.1.2.2.2.2.2.2.1 _ hl0) (fun _ h => h) hfin hd hn hfit hlen hdg (fun H1 locs1 hP1 hD1 hS1 => kk H1 locs1 la hP1 hD1 hS1 hl)
theorem zb_putF {ci : Nat} {C : String} {T : u_T} {N a q0 j i : Nat} {fs : List Value} {v : Value} {ty : FieldType} (hX : zb_X M D ca p s m args meth c) (hdg : decode M.2.2.1 pc = .ok (.putfield i, 3)) (hc : zm_Cl ci C T N) (hl0 : Cond.fieldLink M.1 i (T j).1 (T j).2.1 (T j).2.2.1 ∈ zm_tb) (hj : j < N) (he : ws[q0]? = some (a, .inr (ci, fs))) (hfin : (T j).2.2.2 = true) (hdecl : (T j).1 = M.1) (hd : parseFieldDescriptor (T j).2.2.1 = some ty) (hn : narrow ty v = v) (hfit : fits ty v = true) (hlen : j < fs.length) (kk : zb_T M R l D p e s m args below meth c A Z (pc + 3) ls st (ws.set q0 (a, .inr (ci, fs.set j v))) k n) : zb_T M R l D p e s m args below meth c A Z pc ls (v :: .ref a :: st) ws k n := by
  intro H locs la hP hD hS hl
  obtain ⟨ty0, hty0⟩ := hc.2.2.1
  exact va_putF hX.1.1 hX.1.2.1 hX.1.2.2.2.2.2.2.1 hc.2.1 ty0 hty0 hc.2.2.2 hX.1.2.2.2.2.2.1 hX.1.2.2.2.2.2.2.2.2 hP hD hS q0 he hc.1 j hj (hX.1.2.2.2.2.2.2.1 _ hl0) (fun _ h => h) hfin hX.2.1 hdecl hd hn hfit hlen hdg (fun H1 locs1 hP1 hD1 hS1 => kk H1 locs1 la hP1 hD1 hS1 hl)
theorem zb_newa {at0 : ArrayType} {ty : FieldType} {z : Int32} {N t0 : Nat} {a0 : (Nat → Int32) ⊕ (Nat → Int64) ⊕ (Nat → UInt32) ⊕ (Nat → UInt64) ⊕ (Nat → Option Nat)} (hX : zb_X M D ca p s m args meth c) (hA : ∀ q, s.heap.size ≤ q → A q) (hdg : decode M.2.2.1 pc = .ok (.newarray at0, 2)) (hty : newarray.typeOf at0 = ty) (ht0 : (zm_ty ca)[t0]? = some (ca ty, ty)) (hob : va_RA s (ca ty) ty → s.vm.findClass ("[" ++ ty.toString) = some (ca ty)) (harr : Cond.arrayClass ty ∈ zm_tb) (ha : ∀ cA : ClassId, vp_cell cA (N, a0) = arrV cA N (fun _ => defaultValue ty)) (hz : ¬ z < 0) (hN : z.toNatClampNeg = N) (hby : N * componentBytes ty ≤ 536870912) (hc : k + 1 ≤ R.cells) (hs : n + N ≤ R.slots)
    (kk : ∀ q, zb_T M R l D p e s m args below meth c A Z (pc + 2) ls (.ref q :: st) (ws ++ [(q, .inl (ca ty, N, a0))]) (k + 1) (n + N)) : zb_T M R l D p e s m args below meth c A Z pc ls (.int z :: st) ws k n := by
  intro H locs la hP hD hS hl
  refine va_newa (ty := ty) (a0 := (N, a0)) hX.1.1 hX.1.2.1 (by rw [hty]; exact hX.1.2.2.2.2.2.2.1 _ harr) hty hX.1.2.2.2.2.2.2.2.2 hP hD hS hA ha hz hN hby hc hs hdg (fun q cA H1 hK1 hP1 hD1 hS1 => ?_)
  have e1 := hob (hX.1.2.2.2.2.2.2.2.2.2 t0 _ ht0).2
  have e2 : va_RA s cA ty := (hK1.2 7 (cA, ty) rfl).2
  have e3 : cA = ca ty := by
    subst hty
    have e4 : s.vm.findClass ("[" ++ (newarray.typeOf at0).toString) = some cA := by cases at0 <;> exact e2
    exact Option.some.inj (e4.symm.trans e1)
  subst e3
  exact kk q H1 locs la hP1 hD1 hS1 hl
theorem zb_new {ci i : Nat} {C : String} {T : u_T} {N : Nat} {fs : List Value} (hX : zb_X M D ca p s m args meth c) (hA : ∀ q, s.heap.size ≤ q → A q) (hdg : decode M.2.2.1 pc = .ok (.new i, 3)) (hc : zm_Cl ci C T N) (ty : Nat → FieldType) (hty : ∀ j, j < N → parseFieldDescriptor (T j).2.2.1 = some (ty j)) (h1 : Cond.classLink M.1 i C ∈ zm_tb) (h2 : Cond.instantiable C N ∈ zm_tb) (h3 : Cond.initialized C ∈ zm_tb) (hfs : ∀ j, j < N → defaultValue (ty j) = vp_V fs j) (hk : k + 1 ≤ R.cells) (hn : n + N ≤ R.slots)
    (kk : ∀ q, zb_T M R l D p e s m args below meth c A Z (pc + 3) ls (.ref q :: st) (ws ++ [(q, .inr (ci, fs))]) (k + 1) (n + N)) : zb_T M R l D p e s m args below meth c A Z pc ls st ws k n := by
  intro H locs la hP hD hS hl
  exact va_new hX.1.1 hX.1.2.1 hX.1.2.2.2.2.2.2.1 hc.2.1 ty hty hX.1.2.2.2.2.2.1 (hX.1.2.2.2.2.2.2.1 _ h1) (hX.1.2.2.2.2.2.2.1 _ h2) (hX.1.2.2.2.2.2.2.1 _ h3) hX.1.2.2.2.2.2.2.2.2 hP hD hS hA hc.1 hfs hk hn hdg (fun q H1 hP1 hD1 hS1 => kk q H1 locs la hP1 hD1 hS1 hl)
theorem zb_iast {q0 a N : Nat} {f : Nat → Int32} {i x : Int32} (hX : zb_X M D ca p s m args meth c) (hdg : decode M.2.2.1 pc = .ok (.iastore, 1)) (ha : ws[q0]? = some (a, .inl (ca .int, N, .inl f))) (hi : vp_in i N) (kk : zb_T M R l D p e s m args below meth c A Z (pc + 1) ls st (ws.set q0 (a, .inl (ca .int, N, .inl (upd f i.toNatClampNeg x)))) k n) : zb_T M R l D p e s m args below meth c A Z pc ls (.int x :: .int i :: .ref a :: st) ws k n := by
  intro H locs la hP hD hS hl
  exact va_iast hX.1.1 hX.1.2.1 hX.1.2.2.2.2.2.2.2.2 hP hD hS q0 0 ha rfl hi hdg (fun H1 locs1 hP1 hD1 hS1 => kk H1 locs1 la hP1 hD1 hS1 hl)
theorem zb_newq {i : Nat} {z : Int32} {N : Nat} (hX : zb_X M D ca p s m args meth c) (hA : ∀ q, s.heap.size ≤ q → A q) (hdg : decode M.2.2.1 pc = .ok (.anewarray i, 3)) (h1 : Cond.classLink M.1 i RX5 ∈ zm_tb) (hz : ¬ z < 0) (hN : z.toNatClampNeg = N) (hby : N * 4 ≤ 536870912) (hk : k + 1 ≤ R.cells) (hn : n + N ≤ R.slots)
    (kk : ∀ q, zb_T M R l D p e s m args below meth c A Z (pc + 3) ls (.ref q :: st) (ws ++ [(q, .inl (ca (.object RX5), N, .inr (.inr (.inr (.inr (fun _ => none))))))]) (k + 1) (n + N)) : zb_T M R l D p e s m args below meth c A Z pc ls (.int z :: st) ws k n := by
  intro H locs la hP hD hS hl
  refine va_newq hX.1.1 hX.1.2.1 hX.1.2.2.2.2.2.1 (hX.1.2.2.2.2.2.2.1 _ h1) hX.2.2.1 hX.1.2.2.2.2.2.2.2.2 hP hD hS hA hz hN hby hk hn hdg (fun q cA H1 hK1 hP1 hD1 hS1 => ?_)
  obtain ⟨-, -, -, -, -, e1⟩ := (hX.1.2.2.2.2.2.2.2.2.2 5 _ rfl).2
  obtain ⟨-, -, -, -, -, e2⟩ := (hK1.2 7 (cA, .object RX5) rfl).2
  have e3 : cA = ca (.object RX5) := Option.some.inj (e2.symm.trans e1)
  subst e3
  exact kk q H1 locs la hP1 hD1 hS1 hl
theorem zb_astq {q0 qk a v N : Nat} {vs : List Value} {f : Nat → Option Nat} {i : Int32} (hX : zb_X M D ca p s m args meth c) (hdg : decode M.2.2.1 pc = .ok (.aastore, 1)) (ha : ws[q0]? = some (a, .inl (ca (.object RX5), N, .inr (.inr (.inr (.inr f)))))) (hv : ws[qk]? = some (v, .inr (5, vs))) (hi : vp_in i N) (kk : zb_T M R l D p e s m args below meth c A Z (pc + 1) ls st (ws.set q0 (a, .inl (ca (.object RX5), N, .inr (.inr (.inr (.inr (va_up f i.toNatClampNeg (some v)))))))) k n) : zb_T M R l D p e s m args below meth c A Z pc ls (.ref v :: .int i :: .ref a :: st) ws k n := by
  intro H locs la hP hD hS hl
  exact va_astq hX.1.1 hX.1.2.1 hX.1.2.2.2.2.2.2.2.2 hP hD hS q0 5 qk 5 ha rfl hv rfl hi hdg (fun H1 locs1 hP1 hD1 hS1 => kk H1 locs1 la hP1 hD1 hS1 hl)
/-- what the tables say of a constructor -/
def zb_M (N : zm_M) : Prop := Cond.code N.2.1 N.2.2.1 N.2.2.2.1 N.2.2.2.2 ∈ zm_tb ∧ Cond.initialized N.2.1.cls ∈ zm_tb ∧ Cond.instanceMethod N.2.1 ∈ zm_tb ∧ N.2.1.name = "<init>" ∧ (N.2.1.cls ≠ "java/lang/invoke/MethodHandle" ∧ N.2.1.cls ≠ "java/lang/invoke/VarHandle" ∧ (parseMethodDescriptor N.2.1.desc).map (fun q => q.parameters.length) = some 0) ∧ N.2.2.2.2 = none ∧ plainName N.2.1.cls = true ∧ N.2.1.cls = N.1
theorem zb_call {N : zm_M} {R1 : Room} {idx ci q : Nat} {host : String} {fs : List Value} {SH : List zm_H} {w : zm_S} (hX : zb_X M D ca p s m args meth c) (hA : ∀ q, s.heap.size ≤ q → A q) (hdg : decode M.2.2.1 pc = .ok (.invokespecial idx, 3)) (hN : zb_M N) (hlk : Cond.methodLinkNest M.1 idx N.2.1 host ∈ zm_nt) (hC : zb_C N R1 ci fs SH w) (hR : R1.frames + 1 ≤ R.frames ∧ 8 + (N.2.2.2.1 + 11) + R1.locals ≤ R.locals) (hk : k + R1.cells ≤ R.cells) (hn : n + R1.slots ≤ R.slots) (hrm : (st.map fun v => v.category).sum ≤ 8)
    (kk : ∀ ad : Nat → Nat, ad 0 = q → zb_T M R l D p e s m args below meth c A Z (pc + 3) ls st (ws ++ zm_W SH ca ad w) (k + R1.cells) (n + R1.slots)) : zb_T M R l D p e s m args below meth c A Z pc ls (.ref q :: st) (ws ++ [(q, .inr (ci, fs))]) k n := by
  intro H locs la hP hD hS hl
  have hlast : (ws ++ [(q, (.inr (ci, fs) : va_E))])[ws.length]? = some (q, .inr (ci, fs)) := by simp
  have hPc : va_P D vwCl [(q, .inr (ci, fs))] H := fun k x hx => by
    have h0 : k < 1 := (List.getElem?_eq_some_iff.mp hx).1
    rw [show k = 0 by omega] at hx
    cases hx
    exact hP ws.length _ hlast
  have hDc : va_D (fun _ => True) [(q, (.inr (ci, fs) : va_E))] := ⟨fun i j x y hx hy _ => by
    have h0 : i < 1 := (List.getElem?_eq_some_iff.mp hx).1
    have h1 : j < 1 := (List.getElem?_eq_some_iff.mp hy).1
    omega, fun _ _ _ => trivial⟩
  have hFc : ∀ x, va_A [(q, (.inr (ci, fs) : va_E))] H.size x → A x := fun x h => by
    rcases h with ⟨k, e, h⟩ | h
    · have h0 : k < 1 := (List.getElem?_eq_some_iff.mp h).1
      rw [show k = 0 by omega] at h
      cases h
      exact hD.2 ws.length _ hlast
    · exact hA x (Nat.le_trans hS.1 h)
  obtain ⟨n1, n2, n3, n4, n5, n6, n7, n8⟩ := hN
  have hcn : va_CN R s args M.1 idx N.2.1 host N.2.2.1 N.2.2.2.1 none (Cond.code N.2.1 N.2.2.1 N.2.2.2.1 N.2.2.2.2 :: zm_tb) R1 R1.cells R1.slots 0 := by
    rw [n6]
    exact va_cnB 0 hX.1.2.2.2.2.2.2.1 (by rw [← n6]; exact zm_good n1) rfl rfl rfl (hX.1.2.2.2.2.2.2.2.1 _ hlk) (hX.1.2.2.2.2.2.2.1 _ n2) n5 hR
  have hrun := va_runIN (R := R) (As := []) (b := q) (rest := st) ⟨hX.1.1, hX.1.2.1, hX.1.2.2.1, hX.1.2.2.2.2.2.1, hX.1.2.2.2.2.2.2.1⟩ (hC l D ca q H.size) ⟨hcn, n4, hX.1.2.2.2.2.2.2.1 _ n3⟩ ⟨zb_blind, fun U hU hW => ⟨rfl, by rw [hU], by rw [hU]; exact hPc, va_K.moved hW.alike hX.1.2.2.2.2.2.2.2.2, hDc, zm_nt_warm hW hX.1.2.2.2.2.2.2.2.1, zb_AO.moved hW.alike hX.2.2⟩⟩ rfl rfl hl.1 rfl (lv_room hrm) hdg ⟨hk, hn⟩ (g := F0 m pc la (.ref q :: st)) (p := p) (e := e) (below := below) (meth := meth) (locs := locs) (cells := k) (slots := n) (H := H)
  refine va_callv hrun hS (fun x _ h => hFc x h) hFc (fun ad t H1 locs1 ht hvm hpost hB hz1 hk1 hS1 => ?_)
  obtain ⟨hP1, hD1⟩ := hB
  rw [ht] at hP1
  obtain ⟨hP2, hD2⟩ := zb_join hP hD hk1 hFc hP1 hD1
  exact kk ad hpost H1 locs1 la hP2 hD2 hS1 hl
end ZB
/-- a constructor's contract out of the walk from its entry -/
theorem zb_C.of {N : zm_M} {R : Room} {ci : Nat} {fs : List Value} {SH : List zm_H} {w : zm_S} (hN : zb_M N) (hmax : 1 ≤ N.2.2.2.1)
    (h : ∀ (l : Launch) (D : va_G) (ca : FieldType → ClassId) (h0 : Nat) (p : Program) (e : Env) (s : State) (m : MethodId) (args : Array Value) (below : List Frame) (meth : Method) (c : Code) (A : Nat → Prop) (Z : State → Prop), zb_X N D ca p s m args meth c → (∀ q, s.heap.size ≤ q → A q) →
      (∀ (pc : Nat) (ls : List (Nat × Value)) (ad : Nat → Nat), decode N.2.2.1 pc = .ok (.return_, 1) → ad 0 = h0 → zb_T N R l D p e s m args below meth c A Z pc ls [] (zm_W SH ca ad w) R.cells R.slots) →
      zb_T N R l D p e s m args below meth c A Z 0 [(0, .ref h0)] [] [(h0, .inr (ci, fs))] 0 0) : zb_C N R ci fs SH w := by
  intro l D ca h0 sz
  obtain ⟨n1, n2, n3, n4, n5, n6, n7, n8⟩ := hN
  refine Met.ofW (cc := N.2.2.1) (maxL := N.2.2.2.1) (ret := N.2.2.2.2) n7 rfl ?_
  intro p e s m args below meth c s₁ B hml hv
  obtain ⟨rfl, hsz, hP, hK, hD0, hNt, hO⟩ := hv
  have hts := atoms_spec (ws := Cond.code N.2.1 N.2.2.1 N.2.2.2.1 N.2.2.2.2 :: zm_tb) B.pre
  have ho : s.vm.findClass N.1 = some m.cls := by rw [← n8]; exact findClass_of_methodNamed B.named
  have hnm : meth.name = "<init>" := (name_of_methodNamed B.named B.method).1.trans n4
  subst hsz
  have hl := lv_entry [.ref h0] (n := N.2.2.2.1) hmax
  rw [lg_entry_eq]
  have hD := hD0.self (sz := s.heap.size)
  refine h l D ca h0 p e s m _ below meth c _ _ ⟨⟨B.exec, B.bytes, hml, B.returns, B.notSynchronized, ho, fun z hz => hts z (List.mem_cons_of_mem _ hz), hNt, hK⟩, hnm, hO⟩ (fun q hq => Or.inr hq) (fun pc ls ad hdg had H locs la hP9 hD9 hS9 hl9 => ?_) s.heap [] _ hP hD va_S.rf hl
  exact W.vret B.exec B.bytes (B.returns.trans n6) (fun t ht hW => ⟨⟨ad, rfl, had, by rw [ht]; exact hP9, hD9⟩, hS9.F ht⟩) hS9.2.2 hdg B.notSynchronized
