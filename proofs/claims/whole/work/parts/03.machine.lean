/-! ===== the words: those that hold through every call, and the nest's ===== -/
def zm_tb : List Cond := lw_tbl.filter goodWord
def zm_isN : Cond → Bool
  | .fieldLinkNest _ _ _ _ _ _ => true
  | .methodLinkNest _ _ _ _ => true
  | _ => false
def zm_nt : List Cond := lw_tbl.filter zm_isN
/-! ===== the picture: places instead of addresses; what is in them ===== -/
abbrev zm_S : Type := (Nat → Nat → Int32) × (Nat → Nat → Int64)
abbrev zm_H : Type := (FieldType × Nat × List Nat) ⊕ (Nat × List (Option Nat))
abbrev zm_M : Type := String × MethodName × ByteArray × Nat × Option FieldType
def zm_v (ad : Nat → Nat) : Value → Value
  | .ref k => .ref (ad k)
  | v => v
def zm_c (ad : Nat → Nat) (ty : FieldType) (rs : List Nat) (f : Nat → Int32) (g : Nat → Int64) : (Nat → Int32) ⊕ (Nat → Int64) ⊕ (Nat → UInt32) ⊕ (Nat → UInt64) ⊕ (Nat → Option Nat) :=
  match ty with
  | .long => .inr (.inl g)
  | .object _ => .inr (.inr (.inr (.inr (fun j => (rs[j]?).map ad))))
  | .array _ => .inr (.inr (.inr (.inr (fun j => (rs[j]?).map ad))))
  | _ => .inl f
def zm_o (ad : Nat → Nat) (f : Nat → Int32) (j : Nat) (o : Option Nat) : Value :=
  match o with
  | some p => .ref (ad p)
  | none => .int (f j)
def zm_E (ca : FieldType → ClassId) (ad : Nat → Nat) (h : zm_H) (f : Nat → Int32) (g : Nat → Int64) : va_E :=
  match h with
  | .inl (ty, n, rs) => .inl (ca ty, n, zm_c ad ty rs f g)
  | .inr (ci, fs) => .inr (ci, fs.mapIdx (zm_o ad f))
def zm_W (SH : List zm_H) (ca : FieldType → ClassId) (ad : Nat → Nat) (w : zm_S) : va_W := SH.mapIdx (fun k h => (ad k, zm_E ca ad h (w.1 k) (w.2 k)))
def zm_pa (w : zm_S) (k : Nat) (f : Nat → Int32) : zm_S := (fun k' => if k' = k then f else w.1 k', w.2)
def zm_qa (w : zm_S) (k : Nat) (g : Nat → Int64) : zm_S := (w.1, fun k' => if k' = k then g else w.2 k')
abbrev zm_pi (w : zm_S) (k j : Nat) (x : Int32) : zm_S := zm_pa w k (upd (w.1 k) j x)
abbrev zm_pl (w : zm_S) (k j : Nat) (x : Int64) : zm_S := zm_qa w k (vp_updL (w.2 k) j x)
def zm_A (SH : List zm_H) (ad : Nat → Nat) (sz : Nat) : Nat → Prop := fun q => (∃ k, k < SH.length ∧ q = ad k) ∨ sz ≤ q
abbrev zm_ty (ca : FieldType → ClassId) : List (ClassId × FieldType) := [(ca .int, .int), (ca .long, .long), (ca .byte, .byte), (ca .short, .short), (ca .boolean, .boolean), (ca (.object RX5), .object RX5), (ca (.array .int), .array .int)]
abbrev zm_R (d : Nat) : Room := { frames := d + 1, cells := 0, slots := 0, locals := 70 * (d + 1) }
theorem zm_W_at {SH : List zm_H} {ca : FieldType → ClassId} {ad : Nat → Nat} {w : zm_S} {k : Nat} {h : zm_H} (e : SH[k]? = some h) : (zm_W SH ca ad w)[k]? = some (ad k, zm_E ca ad h (w.1 k) (w.2 k)) := by
  simp [zm_W, e]
theorem zm_W_back {SH : List zm_H} {ca : FieldType → ClassId} {ad : Nat → Nat} {w : zm_S} {k : Nat} {q : Nat × va_E} (e : (zm_W SH ca ad w)[k]? = some q) : k < SH.length ∧ q.1 = ad k := by
  simp only [zm_W, List.getElem?_mapIdx] at e
  cases hh : SH[k]? with
  | none => rw [hh] at e; cases e
  | some h =>
    rw [hh] at e
    have e2 := (Option.some.inj e).symm
    exact ⟨(List.getElem?_eq_some_iff.mp hh).1, by rw [e2]⟩
theorem zm_W_seti {SH : List zm_H} {ca : FieldType → ClassId} {ad : Nat → Nat} {w : zm_S} {k : Nat} {h : zm_H} (e : SH[k]? = some h) (f : Nat → Int32) : (zm_W SH ca ad w).set k (ad k, zm_E ca ad h f (w.2 k)) = zm_W SH ca ad (zm_pa w k f) := by
  apply List.ext_getElem?
  intro j
  by_cases hj : j = k
  · subst hj
    rw [zm_W_at e, List.getElem?_set_self (by have := (List.getElem?_eq_some_iff.mp e).1; simpa [zm_W] using this)]
    simp [zm_pa]
  · rw [List.getElem?_set_ne (Ne.symm hj)]
    simp [zm_W, zm_pa, hj]
theorem zm_W_setl {SH : List zm_H} {ca : FieldType → ClassId} {ad : Nat → Nat} {w : zm_S} {k : Nat} {h : zm_H} (e : SH[k]? = some h) (g : Nat → Int64) : (zm_W SH ca ad w).set k (ad k, zm_E ca ad h (w.1 k) g) = zm_W SH ca ad (zm_qa w k g) := by
  apply List.ext_getElem?
  intro j
  by_cases hj : j = k
  · subst hj
    rw [zm_W_at e, List.getElem?_set_self (by have := (List.getElem?_eq_some_iff.mp e).1; simpa [zm_W] using this)]
    simp [zm_qa]
  · rw [List.getElem?_set_ne (Ne.symm hj)]
    simp [zm_W, zm_qa, hj]
theorem zm_o_set {fs : List (Option Nat)} {ad : Nat → Nat} {f : Nat → Int32} {j : Nat} (e : fs[j]? = some none) (x : Int32) : (fs.mapIdx (zm_o ad f)).set j (.int x) = fs.mapIdx (zm_o ad (upd f j x)) := by
  apply List.ext_getElem?
  intro i
  by_cases hj : i = j
  · subst hj
    rw [List.getElem?_set_self (by have := (List.getElem?_eq_some_iff.mp e).1; simpa using this)]
    simp [e, zm_o, upd]
  · rw [List.getElem?_set_ne (Ne.symm hj)]
    simp only [List.getElem?_mapIdx]
    cases fs[i]? with
    | none => rfl
    | some o => cases o <;> simp [zm_o, upd, hj]
theorem zm_pa_fst (w : zm_S) (k : Nat) (f : Nat → Int32) (k' : Nat) : (zm_pa w k f).1 k' = if k' = k then f else w.1 k' := rfl
theorem zm_pa_snd (w : zm_S) (k : Nat) (f : Nat → Int32) : (zm_pa w k f).2 = w.2 := rfl
theorem zm_qa_fst (w : zm_S) (k : Nat) (g : Nat → Int64) : (zm_qa w k g).1 = w.1 := rfl
theorem zm_qa_snd (w : zm_S) (k : Nat) (g : Nat → Int64) (k' : Nat) : (zm_qa w k g).2 k' = if k' = k then g else w.2 k' := rfl
/-! ===== a frame, a walk, a contract ===== -/
def zm_X (M : zm_M) (D : va_G) (ca : FieldType → ClassId) (p : Program) (s : State) (m : MethodId) (args : Array Value) (meth : Method) (c : Code) : Prop :=
  p.tables.exec = Jvm.exec ∧ c.code = M.2.2.1 ∧ c.maxLocals = M.2.2.2.1 ∧ meth.sig.returnType = M.2.2.2.2 ∧ meth.locks = false ∧ s.vm.findClass M.1 = some m.cls ∧ (∀ w ∈ zm_tb, w.before args s = true) ∧ (∀ w ∈ zm_nt, va_Nw w s) ∧ va_K D vwCl (zm_ty ca) s
def zm_Y (SH : List zm_H) (D : va_G) (ca : FieldType → ClassId) (ad : Nat → Nat) (w : zm_S) (A : Nat → Prop) (H0 H : Heap) (locs : List Loc) : Prop :=
  va_P D vwCl (zm_W SH ca ad w) H ∧ va_D A (zm_W SH ca ad w) ∧ va_S A H0 H locs
def zm_B (SH : List zm_H) (D : va_G) (ca : FieldType → ClassId) (ad : Nat → Nat) (A : Nat → Prop) (u : zm_S) (t : State) : Prop :=
  va_P D vwCl (zm_W SH ca ad u) t.heap ∧ va_K D vwCl (zm_ty ca) t ∧ va_D A (zm_W SH ca ad u)
def zm_Q (SH : List zm_H) (D : va_G) (ca : FieldType → ClassId) (ad : Nat → Nat) (ret : Option FieldType) (Q : Value → zm_S → Prop) (A : Nat → Prop) : Array Value → State → Outcome → State → Prop :=
  match ret with
  | none => va_Qv (fun u => Q .null u) (zm_B SH D ca ad A) A
  | some .long => va_Ql (fun r u => Q (.long r) u) (zm_B SH D ca ad A) A
  | some _ => va_Qi (fun r u => Q (.int r) u) (zm_B SH D ca ad A) A
def zm_ls (ad : Nat → Nat) (ls : List (Nat × Value)) : List (Nat × Value) := ls.map (fun q => (q.1, zm_v ad q.2))
def zm_st (ad : Nat → Nat) (st : List Value) : List Value := st.map (zm_v ad)
/-- from here the method comes to its end, with Q of its answer and of what is then in the places -/
def zm_T (SH : List zm_H) (d : Nat) (M : zm_M) (Q : Value → zm_S → Prop) (pc : Nat) (ls : List (Nat × Value)) (st : List Value) (w : zm_S) : Prop :=
  ∀ (l : Launch) (D : va_G) (ca : FieldType → ClassId) (ad : Nat → Nat) (p : Program) (e : Env) (s : State) (m : MethodId) (args : Array Value) (below : List Frame) (meth : Method) (c : Code) (H : Heap) (locs : List Loc) (la : Array Slot),
    zm_X M D ca p s m args meth c → zm_Y SH D ca ad w (zm_A SH ad s.heap.size) s.heap H locs → lv_has la M.2.2.2.1 (zm_ls ad ls) →
    W p l e (zm_R d) s m args below meth c H locs 0 0 (MQ below (zm_Q SH D ca ad M.2.2.2.2 Q (zm_A SH ad s.heap.size)) args s 0 0 (zm_A SH ad s.heap.size)) (F0 m pc la (zm_st ad st))
def zm_C (SH : List zm_H) (d : Nat) (M : zm_M) (as : List Value) (w : zm_S) (Q : Value → zm_S → Prop) : Prop :=
  ∀ (l : Launch) (D : va_G) (ca : FieldType → ClassId) (ad : Nat → Nat) (sz : Nat), Met l M.2.1 (Cond.code M.2.1 M.2.2.1 M.2.2.2.1 M.2.2.2.2 :: zm_tb) (zm_R d)
    (va_Pc (zm_st ad as) (fun U => U.heap.size = sz ∧ va_P D vwCl (zm_W SH ca ad w) U.heap ∧ va_K D vwCl (zm_ty ca) U ∧ va_D (fun _ => True) (zm_W SH ca ad w) ∧ ∀ z ∈ zm_nt, va_Nw z U))
    (zm_Q SH D ca ad M.2.2.2.2 Q (zm_A SH ad sz)) 0 0 (zm_A SH ad sz)
theorem zm_v_cat (ad : Nat → Nat) (v : Value) : (zm_v ad v).category = v.category := by cases v <;> rfl
theorem zm_ls_args (ad : Nat → Nat) : ∀ (as : List Value) (i : Nat), zm_ls ad (lv_args i as) = lv_args i (zm_st ad as)
  | [], _ => rfl
  | v :: as, i => by
    show (i, zm_v ad v) :: zm_ls ad (lv_args _ as) = (i, zm_v ad v) :: lv_args _ (zm_st ad as)
    rw [zm_ls_args ad as, zm_v_cat]
theorem zm_sl_len (ad : Nat → Nat) : ∀ (as : List Value), (lg_sl (zm_st ad as)).length = (lg_sl as).length
  | [] => rfl
  | v :: as => by
    show ((if (zm_v ad v).category = 2 then [Slot.val (zm_v ad v), .second] else [.val (zm_v ad v)]) ++ lg_sl (zm_st ad as)).length = ((if v.category = 2 then [Slot.val v, .second] else [.val v]) ++ lg_sl as).length
    rw [zm_v_cat, List.length_append, List.length_append, zm_sl_len ad as]
    split <;> rfl
theorem zm_D_self {SH : List zm_H} {ca : FieldType → ClassId} {ad : Nat → Nat} {w : zm_S} {A : Nat → Prop} {sz : Nat} (h : va_D A (zm_W SH ca ad w)) : va_D (zm_A SH ad sz) (zm_W SH ca ad w) :=
  ⟨h.1, fun k q hk => Or.inl ⟨k, (zm_W_back hk).1, (zm_W_back hk).2⟩⟩
/-- a contract out of the walk from its entry -/
theorem zm_C.of {SH : List zm_H} {d : Nat} {M : zm_M} {as : List Value} {w : zm_S} {Q : Value → zm_S → Prop} (hpl : plainName M.2.1.cls = true) (hown : M.2.1.cls = M.1) (hlen : (lg_sl as).length ≤ M.2.2.2.1) (h : zm_T SH d M Q 0 (lv_args 0 as) [] w) : zm_C SH d M as w Q := by
  intro l D ca ad sz
  refine Met.ofW (cc := M.2.2.1) (maxL := M.2.2.2.1) (ret := M.2.2.2.2) hpl rfl ?_
  intro p e s m args below meth c s₁ B hml hv
  obtain ⟨rfl, hsz, hP, hK, hD0, hN⟩ := hv
  have hts := atoms_spec (ws := Cond.code M.2.1 M.2.2.1 M.2.2.2.1 M.2.2.2.2 :: zm_tb) B.pre
  have ho : s.vm.findClass M.1 = some m.cls := by rw [← hown]; exact findClass_of_methodNamed B.named
  subst hsz
  have hl := lv_entry (zm_st ad as) (n := M.2.2.2.1) (by rw [zm_sl_len]; exact hlen)
  rw [lg_entry_eq]
  rw [← zm_ls_args] at hl
  exact h l D ca ad p e s m (zm_st ad as).toArray below meth c s.heap [] _ ⟨B.exec, B.bytes, hml, B.returns, B.notSynchronized, ho, fun z hz => hts z (List.mem_cons_of_mem _ hz), hN, hK⟩ ⟨hP, zm_D_self hD0, va_S.rf⟩ hl
theorem zm_Q.post {SH : List zm_H} {D : va_G} {ca : FieldType → ClassId} {ad : Nat → Nat} {Q Q' : Value → zm_S → Prop} (hq : ∀ r u, Q r u → Q' r u) {A : Nat → Prop} {a : Array Value} {st : State} {o : Outcome} {t : State} : ∀ {ret : Option FieldType}, zm_Q SH D ca ad ret Q A a st o t → zm_Q SH D ca ad ret Q' A a st o t
  | none, hz => by
    obtain ⟨⟨u, h1, h2, h3⟩, h4⟩ := hz
    exact ⟨⟨u, h1, hq _ _ h2, h3⟩, h4⟩
  | some .long, hz => by
    obtain ⟨⟨r, u, h1, h2, h3⟩, h4⟩ := hz
    exact ⟨⟨r, u, h1, hq _ _ h2, h3⟩, h4⟩
  | some .int, hz => by
    obtain ⟨⟨r, u, h1, h2, h3⟩, h4⟩ := hz
    exact ⟨⟨r, u, h1, hq _ _ h2, h3⟩, h4⟩
  | some .boolean, hz => by
    obtain ⟨⟨r, u, h1, h2, h3⟩, h4⟩ := hz
    exact ⟨⟨r, u, h1, hq _ _ h2, h3⟩, h4⟩
  | some .byte, hz => by
    obtain ⟨⟨r, u, h1, h2, h3⟩, h4⟩ := hz
    exact ⟨⟨r, u, h1, hq _ _ h2, h3⟩, h4⟩
  | some .char, hz => by
    obtain ⟨⟨r, u, h1, h2, h3⟩, h4⟩ := hz
    exact ⟨⟨r, u, h1, hq _ _ h2, h3⟩, h4⟩
  | some .short, hz => by
    obtain ⟨⟨r, u, h1, h2, h3⟩, h4⟩ := hz
    exact ⟨⟨r, u, h1, hq _ _ h2, h3⟩, h4⟩
  | some .float, hz => by
    obtain ⟨⟨r, u, h1, h2, h3⟩, h4⟩ := hz
    exact ⟨⟨r, u, h1, hq _ _ h2, h3⟩, h4⟩
  | some .double, hz => by
    obtain ⟨⟨r, u, h1, h2, h3⟩, h4⟩ := hz
    exact ⟨⟨r, u, h1, hq _ _ h2, h3⟩, h4⟩
  | some (.object _), hz => by
    obtain ⟨⟨r, u, h1, h2, h3⟩, h4⟩ := hz
    exact ⟨⟨r, u, h1, hq _ _ h2, h3⟩, h4⟩
  | some (.array _), hz => by
    obtain ⟨⟨r, u, h1, h2, h3⟩, h4⟩ := hz
    exact ⟨⟨r, u, h1, hq _ _ h2, h3⟩, h4⟩
theorem zm_C.post {SH : List zm_H} {d : Nat} {M : zm_M} {as : List Value} {w : zm_S} {Q Q' : Value → zm_S → Prop} (hq : ∀ r u, Q r u → Q' r u) (h : zm_C SH d M as w Q) : zm_C SH d M as w Q' := by
  intro l D ca ad sz
  have h0 := h l D ca ad sz
  intro p e ha hc hk s m args below hf hpre hP hK
  obtain ⟨t, o, h1, h2, h3, h4, h5⟩ := h0 p e ha hc hk s m args below hf hpre hP hK
  exact ⟨t, o, h1, h2, h3, zm_Q.post hq h4, h5⟩
