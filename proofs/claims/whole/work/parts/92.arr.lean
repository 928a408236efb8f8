/-- a new array into a final field of the object: aload_0, its length, newarray, putfield -/
theorem zb_arr {M : zm_M} {R : Room} {l : Launch} {D : va_G} {ca : FieldType → ClassId} {p : Program} {e : Env} {s : State} {m : MethodId} {args : Array Value} {below : List Frame} {meth : Method} {c : Code} {A : Nat → Prop} {Z : State → Prop} {pc pc1 : Nat} {ls : List (Nat × Value)} {rest : va_W} {k n h0 : Nat} {at0 : ArrayType} {ty ft : FieldType} {z : Int32} {N t0 ci i j Nf : Nat} {C : String} {T : u_T} {fs : List Value} {a0 : (Nat → Int32) ⊕ (Nat → Int64) ⊕ (Nat → UInt32) ⊕ (Nat → UInt64) ⊕ (Nat → Option Nat)} (hX : zb_X M D ca p s m args meth c) (hA : ∀ q, s.heap.size ≤ q → A q)
    (h1 : decode M.2.2.1 pc = .ok (.aload_n 0, 1)) (hloc : ls[0]? = some (0, .ref h0)) (hpush : ∀ {st : List Value} {ws : va_W}, zb_T M R l D p e s m args below meth c A Z pc1 ls (.int z :: st) ws k n → zb_T M R l D p e s m args below meth c A Z (pc + 1) ls st ws k n) (h3 : decode M.2.2.1 pc1 = .ok (.newarray at0, 2)) (h4 : decode M.2.2.1 (pc1 + 2) = .ok (.putfield i, 3))
    (hty : newarray.typeOf at0 = ty) (ht0 : (zm_ty ca)[t0]? = some (ca ty, ty)) (hob : va_RA s (ca ty) ty → s.vm.findClass ("[" ++ ty.toString) = some (ca ty)) (harr : Cond.arrayClass ty ∈ zm_tb) (ha : ∀ cA : ClassId, vp_cell cA (N, a0) = arrV cA N (fun _ => defaultValue ty)) (hz : ¬ z < 0 ∧ z.toNatClampNeg = N ∧ N * componentBytes ty ≤ 536870912) (hc : k + 1 ≤ R.cells) (hs : n + N ≤ R.slots)
    (hcl : zm_Cl ci C T Nf) (hl0 : Cond.fieldLink M.1 i (T j).1 (T j).2.1 (T j).2.2.1 ∈ zm_tb) (hj : j < Nf) (hfin : (T j).2.2.2 = true) (hdecl : (T j).1 = M.1) (hd : parseFieldDescriptor (T j).2.2.1 = some (.array ft)) (hlen : j < fs.length)
    (kk : ∀ q, zb_T M R l D p e s m args below meth c A Z (pc1 + 5) ls [] ((h0, .inr (ci, fs.set j (.ref q))) :: (rest ++ [(q, .inl (ca ty, N, a0))])) (k + 1) (n + N)) : zb_T M R l D p e s m args below meth c A Z pc ls [] ((h0, .inr (ci, fs)) :: rest) k n := by
  refine zb_aload0 0 hX h1 hloc (hpush ?_)
  refine zb_newa hX hA h3 hty ht0 hob harr ha hz.1 hz.2.1 hz.2.2 hc hs (fun q => ?_)
  exact zb_putF (q0 := 0) (j := j) (ty := .array ft) hX h4 hcl hl0 hj rfl hfin hdecl hd rfl rfl hlen (kk q)
theorem zb_widen {M : zm_M} {R : Room} {l : Launch} {D : va_G} {p : Program} {e : Env} {s : State} {m : MethodId} {args : Array Value} {below : List Frame} {meth : Method} {c : Code} {A : Nat → Prop} {Z : State → Prop} {pc : Nat} {ls : List (Nat × Value)} {st : List Value} {ws : va_W} {k n k' n' : Nat} (h1 : k ≤ k') (h2 : n ≤ n') (kk : zb_T M R l D p e s m args below meth c A Z pc ls st ws k' n') : zb_T M R l D p e s m args below meth c A Z pc ls st ws k n := by
  intro H locs la hP hD hS hl
  exact W.widen h1 h2 (kk H locs la hP hD hS hl)
theorem zm_W_of {SH : List zm_H} {ca : FieldType → ClassId} {ad : Nat → Nat} {w : zm_S} {L : va_W} (h : ∀ k : Nat, L[k]? = (SH[k]?).map (fun q => (ad k, zm_E ca ad q (w.1 k) (w.2 k)))) : L = zm_W SH ca ad w := by
  apply List.ext_getElem?
  intro k
  rw [h k, zm_W, List.getElem?_mapIdx]
theorem zm_o_of {fs : List (Option Nat)} {ad : Nat → Nat} {f : Nat → Int32} {L : List Value} (h : ∀ k : Nat, L[k]? = (fs[k]?).map (zm_o ad f k)) : L = fs.mapIdx (zm_o ad f) := by
  apply List.ext_getElem?
  intro k
  rw [h k, List.getElem?_mapIdx]
theorem zb_last {X Y : va_W} : (X ++ Y)[X.length]? = Y[0]? := by rw [List.getElem?_append_right (Nat.le_refl _), Nat.sub_self]
theorem zb_setmid {X Y : va_W} {c x : Nat × va_E} : ((X ++ [c]) ++ Y).set X.length x = (X ++ [x]) ++ Y := by
  rw [List.append_assoc, List.append_assoc, List.set_append_right _ _ (Nat.le_refl _), Nat.sub_self]
  rfl
/-- a new object into an array of such objects, that stands amid the cells -/
theorem zb_astS {M : zm_M} {R : Room} {l : Launch} {D : va_G} {ca : FieldType → ClassId} {p : Program} {e : Env} {s : State} {m : MethodId} {args : Array Value} {below : List Frame} {meth : Method} {c : Code} {A : Nat → Prop} {Z : State → Prop} {pc : Nat} {ls : List (Nat × Value)} {st : List Value} {X Y B : va_W} {k n a v N : Nat} {vs : List Value} {f : Nat → Option Nat} {i : Int32} (hX : zb_X M D ca p s m args meth c) (hdg : decode M.2.2.1 pc = .ok (.aastore, 1)) (hv : B[0]? = some (v, .inr (5, vs))) (hi : vp_in i N) (kk : zb_T M R l D p e s m args below meth c A Z (pc + 1) ls st ((X ++ [(a, .inl (ca (.object RX5), N, .inr (.inr (.inr (.inr (va_up f i.toNatClampNeg (some v)))))))]) ++ (Y ++ B)) k n) : zb_T M R l D p e s m args below meth c A Z pc ls (.ref v :: .int i :: .ref a :: st) (((X ++ [(a, .inl (ca (.object RX5), N, .inr (.inr (.inr (.inr f)))))]) ++ Y) ++ B) k n := by
  refine zb_ws (List.append_assoc _ _ _) ?_
  refine zb_astq (vs := vs) (q0 := X.length) (qk := ((X ++ [((a, .inl (ca (.object RX5), N, .inr (.inr (.inr (.inr f))))) : Nat × va_E)]) ++ Y).length) hX hdg ?_ ?_ hi (zb_ws zb_setmid kk)
  · rw [List.append_assoc, zb_last]
    rfl
  · rw [← List.append_assoc, zb_last]
    exact hv
