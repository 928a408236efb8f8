/-! ===== 'new int[5][12]', by the instruction's own meaning ===== -/
def zb_i (cI : ClassId) : Cell := { cls := cI, slots := Array.replicate 12 (.int 0), vm := .none }
def zb_o (cA : ClassId) (h : Nat) : Nat → Cell
  | 0 => { cls := cA, slots := Array.replicate 5 .null, vm := .none }
  | i + 1 => (zb_o cA h i).setSlot i (.ref (h + 1 + i))
/-- i rows are made and laid in -/
def zb_s (U : State) (cA cI : ClassId) : Nat → State
  | 0 => U.pushCell (zb_o cA U.heap.size 0)
  | i + 1 => ((zb_s U cA cI i).pushCell (zb_i cI)).setCell U.heap.size (zb_o cA U.heap.size (i + 1))
theorem zb_o_is (cA : ClassId) (h : Nat) : ∀ i, (zb_o cA h i).cls = cA ∧ (zb_o cA h i).vm = .none ∧ (zb_o cA h i).slots.size = 5
  | 0 => ⟨rfl, rfl, by simp [zb_o]⟩
  | i + 1 => by
    obtain ⟨a, b, q⟩ := zb_o_is cA h i
    exact ⟨by simp [zb_o, Cell.setSlot, a], by simp [zb_o, Cell.setSlot, b], by simp [zb_o, Cell.setSlot, q]⟩
theorem zb_s_is (U : State) (cA cI : ClassId) : ∀ i, (zb_s U cA cI i).heap.size = U.heap.size + 1 + i ∧ (zb_s U cA cI i).heap[U.heap.size]? = some (zb_o cA U.heap.size i) ∧ (zb_s U cA cI i).vm = U.vm ∧ (zb_s U cA cI i).slotsUsed = U.slotsUsed + 5 + i * 12 ∧ (∀ q : Nat, q < U.heap.size → (zb_s U cA cI i).heap[q]? = U.heap[q]?) ∧ ∀ j, j < i → (zb_s U cA cI i).heap[U.heap.size + 1 + j]? = some (zb_i cI)
  | 0 => ⟨by simp [zb_s], by simp [zb_s], rfl, by simp [zb_s, zb_o], fun q hq => State.heap_pushCell_of_lt _ _ hq, fun j hj => absurd hj (Nat.not_lt_zero j)⟩
  | i + 1 => by
    obtain ⟨a, b, v, u, o, r⟩ := zb_s_is U cA cI i
    have hlt : U.heap.size < (zb_s U cA cI i).heap.size := by omega
    have hb' : ((zb_s U cA cI i).pushCell (zb_i cI)).heap[U.heap.size]? = some (zb_o cA U.heap.size i) := by rw [State.heap_pushCell_of_lt (h := hlt)]; exact b
    refine ⟨?_, State.heap_setCell_self hb', by simp [zb_s, v], ?_, fun q hq => ?_, fun j hj => ?_⟩
    · simp [zb_s, State.setCell, a]
      omega
    · simp [zb_s, u, zb_i]
      omega
    · show (((zb_s U cA cI i).pushCell (zb_i cI)).setCell U.heap.size _).heap[q]? = _
      have hq2 : q < (zb_s U cA cI i).heap.size := by omega
      rw [State.heap_setCell_other (Nat.ne_of_gt hq), State.heap_pushCell_of_lt (h := hq2)]
      exact o q hq
    · show (((zb_s U cA cI i).pushCell (zb_i cI)).setCell U.heap.size _).heap[U.heap.size + 1 + j]? = _
      rw [State.heap_setCell_other (show U.heap.size ≠ U.heap.size + 1 + j by omega)]
      rcases Nat.lt_or_ge j i with h1 | h1
      · have hq2 : U.heap.size + 1 + j < (zb_s U cA cI i).heap.size := by omega
        rw [State.heap_pushCell_of_lt (h := hq2)]
        exact r j h1
      · have h2 : j = i := by omega
        subst h2
        rw [← a]
        exact State.heap_pushCell_size _ _
theorem zb_s_top (U : State) (f : JFrame) (cA cI : ClassId) : ∀ i, zb_s (U.setTop f) cA cI i = (zb_s U cA cI i).setTop f
  | 0 => rfl
  | i + 1 => by simp only [zb_s, zb_s_top U f cA cI i, State.heap_setTop, State.pushCell_setTop, State.setCell_setTop]
theorem zb_o_5 (cA : ClassId) (h : Nat) : zb_o cA h 5 = arrV cA 5 (fun j => .ref (h + 1 + j)) := by
  have hs : (zb_o cA h 5).slots = (arrV cA 5 (fun j => Value.ref (h + 1 + j))).slots := by
    apply Array.ext
    · rw [(zb_o_is cA h 5).2.2, arrV_size]
    · intro j h1 h2
      rw [(zb_o_is cA h 5).2.2] at h1
      rcases (show j = 0 ∨ j = 1 ∨ j = 2 ∨ j = 3 ∨ j = 4 by omega) with rfl | rfl | rfl | rfl | rfl <;> rfl
  have h1 := (zb_o_is cA h 5).1
  have h2 := (zb_o_is cA h 5).2.1
  show zb_o cA h 5 = { cls := cA, slots := (arrV cA 5 (fun j => Value.ref (h + 1 + j))).slots, vm := .none }
  rw [← hs]
  rfl
section ZBM
variable {E : CtlPost} {e : Env} {d : Bool} {acts : List Action} {s : State}
theorem zb_wpnew {c comp : ClassId} {k : Class} {type : FieldType} {len : Nat} {init : Value} (hk : s.vm.classes[c]? = some k) (hkind : k.kind = .array comp type) (hl : ¬ len > e.platform.arrayLengthLimit) (hh : ¬ len * componentBytes type > e.platform.maxHeapBytes) (hfit : fits type init = true) (hdef : init.isDefault = true) {Q : Addr → Pre} (h1 : s.heap.size < e.platform.maxCells) (h2 : s.slotsUsed + len ≤ e.platform.maxSlots)
    (hq : Q s.heap.size d acts (s.pushCell { cls := c, slots := Array.replicate len init, vm := .none })) : wp (Jvm.newArray c len init) Q E e d acts s := by
  have hf : ∀ i v, (Array.replicate len init)[i]? = some v → s.fitsSlot c .none i v = true := by
    intro i v hv
    simp only [Array.getElem?_replicate] at hv
    split at hv
    · cases hv
      simp [State.fitsSlot, State.slotType?, hk, hkind, hfit]
    · cases hv
  have ha : allocActs (Array.replicate len init) s.heap.size acts = acts := by
    have hall : ((Array.replicate len init).all (·.isDefault)) = true := by
      rw [Array.all_replicate]
      split <;> simp [hdef]
    unfold allocActs
    rw [if_pos hall]
  simp only [Jvm.newArray, Jvm.arrayFits, wp_bind', Jvm.W.ask, Jvm.W.ite, hl, if_false, wp_pure', Jvm.W.theClass, hk, hkind, hh, Jvm.W.alloc, Jvm.W.stop, Option.some.injEq, exists_eq_left', Array.size_replicate, ha]
  rw [if_neg (by omega)]
  exact ⟨h1, h2, hf, hq⟩
theorem zb_wpmake {cA cI cc : ClassId} {kA kI : Class} (hkA : s.vm.classes[cA]? = some kA) (hkindA : kA.kind = .array cI (.array .int)) (hkI : s.vm.classes[cI]? = some kI) (hkindI : kI.kind = .array cc .int) (hl : 12 ≤ e.platform.arrayLengthLimit) (hh : 48 ≤ e.platform.maxHeapBytes) (hc : s.heap.size + 6 ≤ e.platform.maxCells) (hs : s.slotsUsed + 65 ≤ e.platform.maxSlots)
    {Q : Addr → Pre} (hq : ∀ d' acts', Q s.heap.size d' acts' (zb_s s cA cI 5)) : wp (multianewarray.make cA [5, 12]) Q E e d acts s := by
  have n5 : (5 : Int32).toNatClampNeg = 5 := by decide
  have n12 : (12 : Int32).toNatClampNeg = 12 := by decide
  have p5 : ¬ (5 : Int32) < 0 := by decide
  have p12 : ¬ (12 : Int32) < 0 := by decide
  have hfind : ([(12 : Int32)].find? (· < 0)) = none := by simp [p12]
  rw [multianewarray.make]
  simp only [wp_bind', Jvm.W.ite, p5, if_false, wp_pure', Jvm.W.theClass, hkA, hkindA, Option.some.injEq, exists_eq_left', n5]
  refine zb_wpnew hkA hkindA (by omega) (by show ¬ 5 * 4 > _; omega) rfl rfl (by omega) (by omega) ?_
  simp only [hfind]
  rw [ite_self, wp_bind', Std.Legacy.Range.forIn_eq_forIn_range']
  have hsz : ([:5] : Std.Legacy.Range).size = 5 := by simp [Std.Legacy.Range.size]
  rw [hsz]
  show wp (forIn (List.range' 0 5 1) PUnit.unit _) _ E e d acts _
  refine wp_forIn_inv (fun rest s' => ∃ i, i ≤ 5 ∧ rest = List.range' i (5 - i) ∧ s' = zb_s s cA cI i) _ _ ⟨0, Nat.zero_le _, rfl, rfl⟩ ?_ ?_
  · rintro x rest s' d' acts' Q' ⟨i, hi, hr, rfl⟩ hnext
    have hlt : i < 5 := by
      rcases Nat.lt_or_ge i 5 with h | h
      · exact h
      · rw [show 5 - i = 0 from by omega] at hr
        simp at hr
    obtain ⟨rfl, hrest⟩ : x = i ∧ rest = List.range' (i + 1) (5 - (i + 1)) := by
      rw [show 5 - i = (5 - (i + 1)) + 1 from by omega, List.range'_succ] at hr
      exact ⟨(List.cons.inj hr).1, (List.cons.inj hr).2⟩
    obtain ⟨f1, f2, f3, f4, -, -⟩ := zb_s_is s cA cI x
    obtain ⟨o1, o2, o3⟩ := zb_o_is cA s.heap.size x
    have hlt0 : s.heap.size < (zb_s s cA cI x).heap.size := by omega
    simp only [wp_bind']
    rw [multianewarray.make]
    simp only [wp_bind', Jvm.W.ite, p12, if_false, wp_pure', Jvm.W.theClass, f3, hkI, hkindI, Option.some.injEq, exists_eq_left', n12]
    refine zb_wpnew (by rw [f3]; exact hkI) hkindI (by omega) (by show ¬ 12 * 4 > _; omega) rfl rfl (by omega) (by omega) ?_
    simp only [wp_bind', Jvm.W.writeLoc, wp_pure']
    refine ⟨zb_o cA s.heap.size x, by rw [State.heap_pushCell_of_lt (h := hlt0)]; exact f2, by rw [o2]; simp, by rw [o3]; exact hlt, ?_, hnext _ _ _ ⟨x + 1, hlt, hrest, ?_⟩⟩
    · rw [o1, o2]
      simp [State.fitsSlot, State.slotType?, f3, hkA, hkindA, fits]
    · rw [f1]
      rfl
  · rintro s' d' acts' ⟨i, hi, hr, rfl⟩
    have h5 : i = 5 := by
      rcases Nat.lt_or_ge i 5 with h | h
      · rw [show 5 - i = (5 - (i + 1)) + 1 from by omega, List.range'_succ] at hr
        cases hr
      · omega
    subst h5
    simp only [wp_pure']
    exact hq _ _
end ZBM
theorem zb_stand {p : Program} {l : Launch} {e : Env} {R : Room} {s : State} {m : MethodId} {args : Array Value} {below : List Frame} {meth : Method} {c : Code} {T : State} {locs : List Loc} {cells slots : Nat} (X : Stand p l e R s m args below meth c T locs cells slots) (cA cI : ClassId) : ∀ i, Stand p l e R s m args below meth c (zb_s T cA cI i) (locs ++ (List.range i).map fun j => ⟨T.heap.size, j⟩) (cells + 1 + i) (slots + 5 + i * 12)
  | 0 => by
    have h := X.pushed (zb_o cA T.heap.size 0)
    rw [(zb_o_is cA T.heap.size 0).2.2] at h
    simpa [zb_s] using h
  | i + 1 => by
    have Xi := zb_stand X cA cI i
    obtain ⟨f1, f2, -, -, -, -⟩ := zb_s_is T cA cI i
    have hlt0 : T.heap.size < (zb_s T cA cI i).heap.size := by omega
    have hcell : ((zb_s T cA cI i).pushCell (zb_i cI)).heap[T.heap.size]? = some (zb_o cA T.heap.size i) := by rw [State.heap_pushCell_of_lt (h := hlt0)]; exact f2
    have h := (Xi.pushed (zb_i cI)).stored hcell i (.ref (T.heap.size + 1 + i))
    have e1 : (zb_i cI).slots.size = 12 := by simp [zb_i]
    rw [e1] at h
    have e2 : (locs ++ (List.range (i + 1)).map fun j => (⟨T.heap.size, j⟩ : Loc)) = (locs ++ (List.range i).map fun j => (⟨T.heap.size, j⟩ : Loc)) ++ [⟨T.heap.size, i⟩] := by simp [List.range_succ, List.append_assoc]
    have e3 : slots + 5 + (i + 1) * 12 = slots + 5 + i * 12 + 12 := by omega
    rw [e2, e3]
    exact h
theorem zb_Wmulti {p : Program} {l : Launch} {e : Env} {R : Room} {s : State} {m : MethodId} {args : Array Value} {below : List Frame} {meth : Method} {c : Code} {H : Heap} {locs : List Loc} {cells slots : Nat} {Q : State → Prop} {cc : ByteArray} {own : String} {index pc : Nat} {la : Array Slot} {rest : List Value} (hexec : p.tables.exec = Jvm.exec) (hb : c.code = cc) (hown : s.vm.findClass own = some m.cls) (hclink : (Cond.classLink own index "[[I").before args s = true) (hover : (Cond.arrayOver (.array .int)).before args s = true) (harr : (Cond.arrayClass .int).before args s = true) (hdg : decode cc pc = .ok (.multianewarray index 2, 4)) (hcells : cells + 6 ≤ R.cells) (hslots : slots + 65 ≤ R.slots)
    (kk : ∀ (H1 : Heap) (cA cI : ClassId), s.vm.findClass "[[I" = some cA → s.vm.findClass "[I" = some cI → H1.size = H.size + 6 → (∀ q : Nat, q < H.size → H1[q]? = H[q]?) → H1[H.size]? = some (arrV cA 5 (fun j => .ref (H.size + 1 + j))) → (∀ j, j < 5 → H1[H.size + 1 + j]? = some (arrV cI 12 (fun _ => .int 0))) → W p l e R s m args below meth c H1 (locs ++ (List.range 5).map fun j => ⟨H.size, j⟩) (cells + 6) (slots + 65) Q (F0 m (pc + 4) la (.ref H.size :: rest))) :
    W p l e R s m args below meth c H locs cells slots Q (F0 m pc la (.int 12 :: .int 5 :: rest)) := by
  intro T hT X
  subst hT
  subst hb
  have hpl : e.platform.magicAccessors = ({} : Platform).magicAccessors := by rw [X.admits.platform]
  obtain ⟨cI, cA, kA, hcomp, -, hkA, hkindA, hnameA⟩ := arrayOverA_spec hover
  obtain ⟨cI', kI, cc, hcomp', hkI, hkindI⟩ := Cond.arrayClass_spec harr
  have eI : cI' = cI := Option.some.inj (hcomp'.symm.trans hcomp)
  subst eI
  obtain ⟨c0, hfc0, hcl⟩ := Cond.classLink_spec hown hclink e.platform hpl
  have hA0 : s.vm.findClass "[[I" = some cA := hnameA
  cases hA0.symm.trans hfc0
  obtain ⟨hg₁, hwarm₁, hready₁⟩ := State.classEntry (e := e) X.warmed hcl
  generalize T.vm.noted m.cls index (.cls cA) = vm₁ at hg₁ hwarm₁ hready₁
  have hal : s.vm.Alike vm₁ := hwarm₁.alike
  obtain ⟨kA₁, hkA₁, heA⟩ := hal.2.2 _ _ hkA
  obtain ⟨kI₁, hkI₁, heI⟩ := hal.2.2 _ _ hkI
  have hkindA₁ : kA₁.kind = .array cI' (.array .int) := by rw [heA]; exact hkindA
  have hkindI₁ : kI₁.kind = .array cc .int := by rw [heI]; exact hkindI
  have X₁ := X.noted hwarm₁
  have XF := zb_stand X₁ cA cI' 5
  obtain ⟨hr1, hr2⟩ := X.roomAbove hcells hslots
  obtain ⟨f1, f2, f3, f4, f5, f6⟩ := zb_s_is (T.setVm vm₁) cA cI' 5
  obtain ⟨t, a1, b1⟩ := kk (zb_s (T.setVm vm₁) cA cI' 5).heap cA cI' hA0 hcomp (by rw [f1]; rfl) f5 (by rw [← zb_o_5]; exact f2) (fun j hj => by rw [← arrV_new]; exact f6 j hj) _ rfl (by simpa using XF)
  refine ⟨t, ?_, b1⟩
  have hl1 : 12 ≤ e.platform.arrayLengthLimit := by rw [Launch.admits_arrayLengthLimit X.admits]; decide
  have hh1 : 48 ≤ e.platform.maxHeapBytes := by rw [Launch.admits_maxHeapBytes X.admits]; decide
  jvm_step X.here [hexec, hdg]
  simp only [multianewarray.sem, wp_bind', Jvm.W.resolveClassAt_links (State.method?_setTop (F0 m pc la (.int 12 :: .int 5 :: rest)) X.here.top) hg₁]
  rw [Jvm.W.popN, if_neg (by decide)]
  refine ⟨F0 m pc la (.int 12 :: .int 5 :: rest), State.topJava?_setTop' (s := T.setVm vm₁) _ X.here.top, [.int 5, .int 12], rest, rfl, rfl, ?_⟩
  simp only [List.mapM_cons, List.mapM_nil, wp_bind', wp_pure']
  refine zb_wpmake hkA₁ hkindA₁ hkI₁ hkindI₁ hl1 hh1 (by show T.heap.size + 6 ≤ _; omega) (by show T.slotsUsed + 65 ≤ _; omega) (fun d' acts' => ?_)
  have eS : ((T.setTop (F0 m pc la (.int 12 :: .int 5 :: rest))).setVm vm₁).setTop (F0 m pc la rest) = (T.setVm vm₁).setTop (F0 m pc la rest) := by
    show ((T.setVm vm₁).setTop _).setTop _ = _
    rw [State.setTop_setTop]
  show wp _ _ _ _ _ _ (zb_s (((T.setTop (F0 m pc la (.int 12 :: .int 5 :: rest))).setVm vm₁).setTop (F0 m pc la rest)) cA cI' 5)
  rw [eS, zb_s_top]
  simp only [wp_bind', Jvm.W.mark, Jvm.W.pushRef, State.topJava?_setTop' _ XF.here.top, Option.some.injEq, exists_eq_left', State.setTop_setTop, State.heap_setTop]
  intro acts
  simp [jvm, XF.here.top]
  exact a1
theorem zb_multi {M : zm_M} {R : Room} {l : Launch} {D : va_G} {ca : FieldType → ClassId} {p : Program} {e : Env} {s : State} {m : MethodId} {args : Array Value} {below : List Frame} {meth : Method} {c : Code} {A : Nat → Prop} {Z : State → Prop} {pc i : Nat} {ls : List (Nat × Value)} {st : List Value} {ws : va_W} {k n : Nat} (hX : zb_X M D ca p s m args meth c) (hA : ∀ q, s.heap.size ≤ q → A q) (hdg : decode M.2.2.1 pc = .ok (.multianewarray i 2, 4)) (h1 : Cond.classLink M.1 i "[[I" ∈ zm_tb) (h2 : Cond.arrayClass .int ∈ zm_tb) (hk : k + 6 ≤ R.cells) (hn : n + 65 ≤ R.slots)
    (kk : ∀ q q1 q2 q3 q4 q5 : Nat, zb_T M R l D p e s m args below meth c A Z (pc + 4) ls (.ref q :: st) (ws ++ [(q, .inl (ca (.array .int), 5, .inr (.inr (.inr (.inr (fun j => ([q1, q2, q3, q4, q5] : List Nat)[j]?)))))), (q1, .inl (ca .int, 12, .inl (fun _ => 0))), (q2, .inl (ca .int, 12, .inl (fun _ => 0))), (q3, .inl (ca .int, 12, .inl (fun _ => 0))), (q4, .inl (ca .int, 12, .inl (fun _ => 0))), (q5, .inl (ca .int, 12, .inl (fun _ => 0)))]) (k + 6) (n + 65)) : zb_T M R l D p e s m args below meth c A Z pc ls (.int 12 :: .int 5 :: st) ws k n := by
  intro H locs la hP hD hS hl
  refine zb_Wmulti hX.1.1 hX.1.2.1 hX.1.2.2.2.2.2.1 (hX.1.2.2.2.2.2.2.1 _ h1) hX.2.2.2 (hX.1.2.2.2.2.2.2.1 _ h2) hdg hk hn (fun H1 cA cI fA fI z1 o1 e1 e2 => ?_)
  have gA : cA = ca (.array .int) := Option.some.inj (fA.symm.trans (hX.1.2.2.2.2.2.2.2.2.2 6 _ rfl).2)
  have gI : cI = ca .int := Option.some.inj (fI.symm.trans (hX.1.2.2.2.2.2.2.2.2.2 0 _ rfl).2)
  subst gA
  subst gI
  have hk : ∀ (k : Nat) (x : Nat × va_E), ws[k]? = some x → H1[x.1]? = H[x.1]? := fun k x hx => o1 x.1 ((hP k x hx).lt)
  refine kk H.size (H.size + 1 + 0) (H.size + 1 + 1) (H.size + 1 + 2) (H.size + 1 + 3) (H.size + 1 + 4) H1 _ la ((hP.kept hk).app (fun j x hx => ?_)) (va_D.app hD ⟨fun i j x y hx hy hxy => ?_, fun j x hx => ?_⟩ (fun i j x y hx hy hxy => ?_)) ⟨Nat.le_trans hS.1 (by omega), fun x h1 h2 => (o1 x (Nat.lt_of_lt_of_le h1 hS.1)).trans (hS.2.1 x h1 h2), fun q hq => ?_⟩ hl
  · match j, hx with
    | 0, hx =>
      cases hx
      show H1[H.size]? = some (vp_cell _ _)
      rw [vp_cell_q, e1]
      congr 1
    | 1, hx => cases hx; exact e2 0 (by decide)
    | 2, hx => cases hx; exact e2 1 (by decide)
    | 3, hx => cases hx; exact e2 2 (by decide)
    | 4, hx => cases hx; exact e2 3 (by decide)
    | 5, hx => cases hx; exact e2 4 (by decide)
    | j + 6, hx => simp at hx
  · have key : ∀ (j : Nat) (x : Nat × va_E), ([(H.size, .inl (ca (.array .int), 5, .inr (.inr (.inr (.inr (fun j => ([H.size + 1 + 0, H.size + 1 + 1, H.size + 1 + 2, H.size + 1 + 3, H.size + 1 + 4] : List Nat)[j]?)))))), (H.size + 1 + 0, .inl (ca .int, 12, .inl (fun _ => 0))), (H.size + 1 + 1, .inl (ca .int, 12, .inl (fun _ => 0))), (H.size + 1 + 2, .inl (ca .int, 12, .inl (fun _ => 0))), (H.size + 1 + 3, .inl (ca .int, 12, .inl (fun _ => 0))), (H.size + 1 + 4, .inl (ca .int, 12, .inl (fun _ => 0)))] : va_W)[j]? = some x → x.1 = H.size + j := fun j x hx => by
      match j, hx with
      | 0, hx => cases hx; rfl
      | 1, hx => cases hx; rfl
      | 2, hx => cases hx; rfl
      | 3, hx => cases hx; rfl
      | 4, hx => cases hx; rfl
      | 5, hx => cases hx; rfl
      | j + 6, hx => simp at hx
    have k1 := key i x hx
    have k2 := key j y hy
    omega
  · match j, hx with
    | 0, hx => cases hx; exact hA _ hS.1
    | 1, hx => cases hx; exact hA _ (by have := hS.1; show _ ≤ H.size + 1 + 0; omega)
    | 2, hx => cases hx; exact hA _ (by have := hS.1; show _ ≤ H.size + 1 + 1; omega)
    | 3, hx => cases hx; exact hA _ (by have := hS.1; show _ ≤ H.size + 1 + 2; omega)
    | 4, hx => cases hx; exact hA _ (by have := hS.1; show _ ≤ H.size + 1 + 3; omega)
    | 5, hx => cases hx; exact hA _ (by have := hS.1; show _ ≤ H.size + 1 + 4; omega)
    | j + 6, hx => simp at hx
  · have hlt := (hP i x hx).lt
    have hge : H.size ≤ y.1 := by
      match j, hy with
      | 0, hy => cases hy; exact Nat.le_refl _
      | 1, hy => cases hy; show _ ≤ H.size + 1 + 0; omega
      | 2, hy => cases hy; show _ ≤ H.size + 1 + 1; omega
      | 3, hy => cases hy; show _ ≤ H.size + 1 + 2; omega
      | 4, hy => cases hy; show _ ≤ H.size + 1 + 3; omega
      | 5, hy => cases hy; show _ ≤ H.size + 1 + 4; omega
      | j + 6, hy => simp at hy
    omega
  · rcases List.mem_append.mp hq with h | h
    · exact hS.2.2 q h
    · obtain ⟨j, -, rfl⟩ := List.mem_map.mp h
      exact hA _ hS.1
