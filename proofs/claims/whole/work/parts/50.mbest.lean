theorem zs_chk_all {n : Nat} (h2 : 2 ≤ n) (h7 : n ≤ 7) {A : Option Nat} (hA : ∀ q, A = some q → q < n) : zs_chk (zs_ql n A) (zs_perms (zs_ql n A)) = true := by
  rcases (show n = 2 ∨ n = 3 ∨ n = 4 ∨ n = 5 ∨ n = 6 ∨ n = 7 by omega) with rfl | rfl | rfl | rfl | rfl | rfl
  · cases A with
    | none => exact zs_chk2.1
    | some q => exact zs_chk2.2 q (hA q rfl)
  · cases A with
    | none => exact zs_chk3.1
    | some q => exact zs_chk3.2 q (hA q rfl)
  · cases A with
    | none => exact zs_chk4.1
    | some q => exact zs_chk4.2 q (hA q rfl)
  · cases A with
    | none => exact zs_chk5.1
    | some q => exact zs_chk5.2 q (hA q rfl)
  · cases A with
    | none => exact zs_chk6.1
    | some q => exact zs_chk6.2 q (hA q rfl)
  · cases A with
    | none => exact zs_chk7a
    | some q => exact zs_chk7b q (hA q rfl)
def zs_bstep (W : Nat → Nat → Nat) (b : Nat × Nat × List Nat) (l : List Nat) : Nat × Nat × List Nat :=
  if zs_of W l 12 < b.1 then (zs_of W l 12, 1, l) else if zs_of W l 12 = b.1 then (b.1, b.2.1 + 1, b.2.2) else b
def zs_bfold (W : Nat → Nat → Nat) (L : List (List Nat)) : Nat × Nat × List Nat := L.foldl (zs_bstep W) (10000, 0, [])
def zs_best (a : zs_A) (A T : Option Nat) : Nat × Nat × List Nat := zs_bfold (zs_wg a A T) (zs_perms (zs_ql (a.1 0 0) A))
theorem zs_of_le {W : Nat → Nat → Nat} (hW : ∀ p s, W p s ≤ 28) (l : List Nat) : zs_of W l 12 ≤ 336 := fb_sm_bound (fun p _ => zs_om_le hW l p l.length)
/-- what is best, in the model's places -/
def zd_b (b : Nat × Nat × List Nat) (v : zm_S) : Prop := v.1 0 21 = nI b.1 ∧ v.1 0 22 = nI b.2.1 ∧ ∀ j, j < b.2.2.length → v.1 16 j = nI (b.2.2.getD j 0)
def zd_G (v0 u : zm_S) : Prop := ∀ k, 17 ≤ k → u.1 k = v0.1 k
theorem zd_o_of {l : List Nat} {v : zm_S} (h : zd_O l v) : zd_o (fun i => l.getD i 0) l.length v := h
theorem zd_O.of_o {g : Nat → Nat} {m : Nat} {v : zm_S} (h : zd_o g m v) : zd_O ((List.range m).map g) v := by
  intro j hj
  have hj : j < m := by simpa using hj
  rw [h j hj]
  simp [List.getD, hj]
theorem zd_W.keep {a : zs_A} {A T : Option Nat} {v u : zm_S} (h : zd_W a A T v) (e : u.1 14 = v.1 14) : zd_W a A T u := fun p s hp hs => by rw [e]; exact h p s hp hs
theorem l_copyBest {d : Nat} {a : zs_A} {A T : Option Nat} {v0 : zm_S} {l : List Nat} (hlen : l.length ≤ 7) {o b1 b2 : Int32} {Q : Value → zm_S → Prop} (hQ : ∀ u, zd_P a u → zd_S a u → zd_W a A T u → zd_O l u → u.1 0 21 = b1 → u.1 0 22 = b2 → (∀ j, j < l.length → u.1 16 j = nI (l.getD j 0)) → zd_G v0 u → zm_T zd_H d mX8_findOrder Q 119 [(0, .ref 0), (3, .int (nI l.length)), (5, .int o)] [] u) : ∀ (m k : Nat) (v : zm_S), k + m = l.length → zd_P a v → zd_S a v → zd_W a A T v → zd_O l v → v.1 0 21 = b1 → v.1 0 22 = b2 → (∀ j, j < k → v.1 16 j = nI (l.getD j 0)) → zd_G v0 v → zm_T zd_H d mX8_findOrder Q 93 [(0, .ref 0), (3, .int (nI l.length)), (5, .int o), (6, .int (nI k))] [] v := by
  intro m
  induction m with
  | zero =>
    intro k v hkm h hS hW hO e1 e2 h3 hG
    obtain rfl : k = l.length := by omega
    exact gX8_findOrder_93 (fun _ => hQ v h hS hW hO e1 e2 h3 hG) (fun z => absurd (Int32.le_refl _) z)
  | succ m ih =>
    intro k v hkm h hS hW hO e1 e2 h3 hG
    refine gX8_findOrder_93 (fun z => absurd z (nI_ge (by omega) (by omega))) (fun _ => ?_)
    refine gX8_findOrder_99 (vp_in_nI (by omega) (by decide)) (vp_in_nI (by omega) (by decide)) ?_
    rw [zx_clamp (by omega), hO k (by omega), nI_1]
    refine ih (k + 1) _ (by omega) (h.pa (by omega) _) (hS.keep (zm_pa_ne (by decide))) (hW.keep (zm_pa_ne (by decide))) (fun j hj => by rw [zm_pa_ne (by decide)]; exact hO j hj) (by rw [zm_pa_ne (by decide)]; exact e1) (by rw [zm_pa_ne (by decide)]; exact e2) (fun j hj => ?_) (fun j hj => by rw [zm_pa_ne (by omega)]; exact hG j hj)
    rw [zm_pa_at]
    by_cases z : j = k
    · rw [z, pk_us]
    · rw [pk_un z]; exact h3 j (by omega)
theorem zs_nxl_none {l : List Nat} (h : zs_nxl l = none) : zs_nxt (fun i => l.getD i 0) l.length = none := by
  unfold zs_nxl at h
  cases e : zs_nxt (fun i => l.getD i 0) l.length with
  | none => rfl
  | some g => rw [e] at h; cases h
theorem zs_nxl_some {l l' : List Nat} {g : Nat → Nat} (h : zs_nxl l = some l') (hg : zs_nxt (fun i => l.getD i 0) l.length = some g) : l' = (List.range l.length).map g := by
  unfold zs_nxl at h
  rw [hg] at h
  exact (Option.some.inj h).symm
theorem l_ostep {d : Nat} {a : zs_A} {A T : Option Nat} {v0 v : zm_S} {l : List Nat} {b : Nat × Nat × List Nat} (h7 : l.length ≤ 7) (hl : ∀ j, j < l.length → l.getD j 0 < a.1 0 0) (h : zd_P a v) (hS : zd_S a v) (hW : zd_W a A T v) (hO : zd_O l v) (hb : zd_b b v) (hb1 : b.1 ≤ 10000) (hG : zd_G v0 v) {Q : Value → zm_S → Prop}
    (hK : ∀ (u : zm_S) (x y : Int32), x + y = nI (zs_bstep (zs_wg a A T) b l).2.1 → zd_P a u → zd_S a u → zd_W a A T u → zd_O l u → u.1 0 21 = nI (zs_bstep (zs_wg a A T) b l).1 → (∀ j, j < (zs_bstep (zs_wg a A T) b l).2.2.length → u.1 16 j = nI ((zs_bstep (zs_wg a A T) b l).2.2.getD j 0)) → zd_G v0 u → zm_T zd_H (d + 1) mX8_findOrder Q 138 [(0, .ref 0), (3, .int (nI l.length))] [.int y, .int x, .ref 0] u) : zm_T zd_H (d + 1) mX8_findOrder Q 63 [(0, .ref 0), (3, .int (nI l.length))] [] v := by
  have hof := zs_of_le (zs_wg_le a A T) l
  refine gX8_findOrder_63 (k_offNow h hW h7 hl hO) (zq_i ?_)
  refine gX8_findOrder_68 (fun g => ?_) (fun g => gX8_findOrder_79 ?_)
  · rw [hb.1, nI_leI (by omega) (by omega)] at g
    refine gX8_findOrder_119 (fun g2 => gX8_findOrder_137 ?_) (fun g2 => gX8_findOrder_133 ?_)
    · rw [hb.1, nI_eq (by omega) (by omega)] at g2
      have e : zs_bstep (zs_wg a A T) b l = b := by rw [zs_bstep, if_neg (by omega), if_neg g2]
      rw [e] at hK
      exact hK v _ _ (by rw [hb.2.1, show (0 : Int32) = nI 0 from rfl, nI_add, Nat.add_zero]) h hS hW hO hb.1 hb.2.2 hG
    · rw [hb.1, nI_eq (by omega) (by omega)] at g2
      have e : zs_bstep (zs_wg a A T) b l = (b.1, b.2.1 + 1, b.2.2) := by rw [zs_bstep, if_neg (by omega), if_pos g2]
      rw [e] at hK
      exact hK v _ _ (by rw [hb.2.1, nI_1]) h hS hW hO hb.1 hb.2.2 hG
  · rw [hb.1, nI_leI (by omega) (by omega)] at g
    have e : zs_bstep (zs_wg a A T) b l = (zs_of (zs_wg a A T) l 12, 1, l) := by rw [zs_bstep, if_pos (by omega)]
    rw [e] at hK
    refine l_copyBest (a := a) (A := A) (T := T) (v0 := v0) (b1 := nI (zs_of (zs_wg a A T) l 12)) (b2 := 0) h7 (fun u q1 q2 q3 q4 q5 q6 q7 q8 => ?_) l.length 0 _ (by omega) ((h.pf (by decide) _).pf (by decide) _) ((hS.keep (zm_pa_ne (by decide))).keep (zm_pa_ne (by decide))) ((hW.keep (zm_pa_ne (by decide))).keep (zm_pa_ne (by decide))) (fun j hj => by rw [zm_pa_ne (by decide), zm_pa_ne (by decide)]; exact hO j hj) ?_ ?_ (fun j hj => absurd hj (Nat.not_lt_zero j)) (fun k hk => by rw [zm_pa_ne (by omega), zm_pa_ne (by omega)]; exact hG k hk)
    · refine gX8_findOrder_119 (fun g2 => absurd q5.symm g2) (fun g2 => gX8_findOrder_133 ?_)
      exact hK u _ _ (by rw [q6]; rfl) q1 q2 q3 q4 q5 q7 q8
    · rw [zm_pa_at, pk_un (by decide), zm_pa_at, pk_us]
    · rw [zm_pa_at, pk_us]
theorem zs_bstep_le {W : Nat → Nat → Nat} {b : Nat × Nat × List Nat} (l : List Nat) (hb : b.1 ≤ 10000) : (zs_bstep W b l).1 ≤ 10000 := by
  unfold zs_bstep
  split
  · simp only; omega
  · split <;> exact hb
theorem l_order {d : Nat} {a : zs_A} {A T : Option Nat} {v0 : zm_S} : ∀ (r : List (List Nat)) (l : List Nat) (b : Nat × Nat × List Nat) (v : zm_S), zs_chn l r = true → 1 ≤ l.length → l.length ≤ 7 → (∀ l', l' ∈ l :: r → ∀ j, j < l'.length → l'.getD j 0 < a.1 0 0) → zd_P a v → zd_S a v → zd_W a A T v → zd_O l v → zd_b b v → b.1 ≤ 10000 → zd_G v0 v → zm_T zd_H (d + 2) mX8_findOrder (zp .null (fun u => zd_P a u ∧ zd_S a u ∧ zd_b ((l :: r).foldl (zs_bstep (zs_wg a A T)) b) u ∧ zd_G v0 u)) 63 [(0, .ref 0), (3, .int (nI l.length))] [] v := by
  intro r
  induction r with
  | nil =>
    intro l b v hc h1 h7 hlt h hS hW hO hb hb1 hG
    have hn7 := h.1.1
    have hl := hlt l List.mem_cons_self
    have hnx : zs_nxt (fun i => l.getD i 0) l.length = none := zs_nxl_none (by simpa [zs_chn] using hc)
    refine l_ostep (d := d + 1) h7 hl h hS hW hO hb hb1 hG (fun u x y hx q1 q2 q7 q3 q4 q5 q6 => ?_)
    refine gX8_findOrder_138 (k_goesOn h1 h7 (fun j hj => by have := hl j hj; show l.getD j 0 < 7; omega) (f := fun i => l.getD i 0) (fun j hj => by rw [zm_pa_ne (by decide)]; exact q3 j hj)) (fun r z hz => ?_)
    rcases hz with ⟨z1, z2, z3⟩ | ⟨g, z1, z2, z3, z4⟩
    · cases z2
      refine gX8_findOrder_147 (gX8_findOrder_58 (fun _ => gX8_findOrder_152 ?_) (fun q => absurd rfl q))
      rw [z3, hx]
      refine ⟨rfl, q1.pf (by decide) _, q2.keep (zm_pa_ne (by decide)), ⟨?_, ?_, fun j hj => ?_⟩, fun k hk => ?_⟩
      · rw [zm_pa_at, pk_un (by decide)]; exact q4
      · rw [zm_pa_at, pk_us]; rfl
      · rw [zm_pa_ne (by decide)]; exact q5 j hj
      · rw [zm_pa_ne (by omega)]; exact q6 k hk
    · rw [hnx] at z1; cases z1
  | cons l' r ih =>
    intro l b v hc h1 h7 hlt h hS hW hO hb hb1 hG
    have hn7 := h.1.1
    have hl := hlt l List.mem_cons_self
    rw [zs_chn, Bool.and_eq_true, decide_eq_true_iff] at hc
    obtain ⟨hc1, hc2⟩ := hc
    refine l_ostep (d := d + 1) h7 hl h hS hW hO hb hb1 hG (fun u x y hx q1 q2 q7 q3 q4 q5 q6 => ?_)
    refine gX8_findOrder_138 (k_goesOn h1 h7 (fun j hj => by have := hl j hj; show l.getD j 0 < 7; omega) (f := fun i => l.getD i 0) (fun j hj => by rw [zm_pa_ne (by decide)]; exact q3 j hj)) (fun r0 z hz => ?_)
    rcases hz with ⟨z1, z2, z3⟩ | ⟨g, z1, z2, z3, z4⟩
    · unfold zs_nxl at hc1
      rw [z1] at hc1
      cases hc1
    · cases z2
      have el := zs_nxl_some hc1 z1
      have ell : l'.length = l.length := by rw [el]; simp
      refine gX8_findOrder_147 (gX8_findOrder_58 (fun q => absurd q (by decide)) (fun _ => ?_))
      rw [← ell]
      have e14 : z.1 14 = u.1 14 := by rw [z4 14 (by decide), zm_pa_ne (by decide)]
      have e10 : z.1 10 = u.1 10 := by rw [z4 10 (by decide), zm_pa_ne (by decide)]
      have e16 : z.1 16 = u.1 16 := by rw [z4 16 (by decide), zm_pa_ne (by decide)]
      have e0 : z.1 0 = upd (u.1 0) 22 (x + y) := by rw [z4 0 (by decide), zm_pa_at]
      refine ih l' _ z hc2 (by omega) (by omega) (fun m hm => hlt m (List.mem_cons_of_mem _ hm)) ?_ (q2.keep e10) (q7.keep e14) (by rw [el]; exact zd_O.of_o z3) ⟨?_, ?_, fun j hj => ?_⟩ (zs_bstep_le l hb1) (fun k hk => ?_)
      · refine q1.of (fun k hk => by rw [z4 k (by omega), zm_pa_ne (by omega)]) (fun j hj => by rw [e0, pk_un (by omega)])
      · rw [e0, pk_un (by decide)]; exact q4
      · rw [e0, pk_us, hx]
      · rw [e16]; exact q5 j hj
      · rw [z4 k (by omega), zm_pa_ne (by omega)]; exact q6 k hk
/-! the first row, made -/
theorem zs_ql_1 (n : Nat) (A : Option Nat) : zs_ql (n + 1) A = zs_ql n A ++ (if A = some n then [] else [n]) := by
  unfold zs_ql
  rw [List.range_succ, List.filter_append]
  congr 1
  by_cases e : A = some n
  · simp [e]
  · simp [e]
theorem zs_ql_len (n : Nat) (A : Option Nat) : (zs_ql n A).length ≤ n := by
  unfold zs_ql
  exact Nat.le_trans (List.length_filter_le _ _) (by simp)
theorem zs_ql_lt {n : Nat} {A : Option Nat} {x : Nat} (h : x ∈ zs_ql n A) : x < n := by
  unfold zs_ql at h
  exact List.mem_range.mp (List.mem_filter.mp h).1
theorem zs_prm_mem : ∀ (m : Nat) (l r : List Nat), r ∈ zs_prm m l → ∀ x, x ∈ r → x ∈ l
  | 0, l, r, h, x, hx => by
    rw [zs_prm] at h
    rw [List.mem_singleton.mp h] at hx
    cases hx
  | m + 1, l, r, h, x, hx => by
    rw [zs_prm] at h
    obtain ⟨y, hy, hr⟩ := List.mem_flatMap.mp h
    obtain ⟨r', hr', rfl⟩ := List.mem_map.mp hr
    rcases List.mem_cons.mp hx with e | e
    · rw [e]; exact hy
    · exact List.mem_of_mem_erase (zs_prm_mem m _ r' hr' x e)
theorem zs_getD_mem {l : List Nat} {j : Nat} (h : j < l.length) : l.getD j 0 ∈ l := by
  rw [List.getD_eq_getElem?_getD, List.getElem?_eq_getElem h]
  exact List.getElem_mem h
theorem l_first {d : Nat} {a : zs_A} {A T : Option Nat} (hA : ∀ q, A = some q → q < 7) {v0 : zm_S} {Q : Value → zm_S → Prop} (hQ : ∀ u, zd_P a u → zd_S a u → zd_W a A T u → zd_O (zs_ql (a.1 0 0) A) u → zd_G v0 u → zm_T zd_H (d + 1) mX8_findOrder Q 43 [(0, .ref 0), (3, .int (nI (zs_ql (a.1 0 0) A).length))] [] u) : ∀ (m q : Nat) (v : zm_S), q + m = a.1 0 0 → zd_P a v → zd_S a v → zd_W a A T v → zd_O (zs_ql q A) v → zd_G v0 v → zm_T zd_H (d + 1) mX8_findOrder Q 11 [(0, .ref 0), (1, .int (zs_fl A)), (3, .int (nI (zs_ql q A).length)), (4, .int (nI q))] [] v := by
  intro m
  induction m with
  | zero =>
    intro q v hqm h hS hW hO hG
    obtain rfl : q = a.1 0 0 := by omega
    refine gX8_findOrder_11 (k_n h) (zq_i ?_)
    exact gX8_findOrder_17 (fun _ => hQ v h hS hW hO hG) (fun z => absurd (Int32.le_refl _) z)
  | succ m ih =>
    intro q v hqm h hS hW hO hG
    have hn7 := h.1.1
    have hql := zs_ql_len q A
    have eA : nI q = zs_fl A ↔ A = some q := by
      cases hA2 : A with
      | none =>
        refine ⟨fun z => ?_, fun z => by cases z⟩
        have z2 := congrArg Int32.toInt z
        rw [nI_toInt (by omega), show (zs_fl none).toInt = -1 from rfl] at z2
        omega
      | some p =>
        have hp := hA p hA2
        rw [show zs_fl (some p) = nI p from rfl, nI_eq (by omega) (by omega)]
        exact ⟨fun z => by rw [z], fun z => (Option.some.inj z).symm⟩
    refine gX8_findOrder_11 (k_n h) (zq_i ?_)
    refine gX8_findOrder_17 (fun z => absurd z (nI_ge (by omega) (by omega))) (fun _ => ?_)
    refine gX8_findOrder_20 (fun g => gX8_findOrder_37 ?_) (fun g => gX8_findOrder_26 (vp_in_nI (by omega) (by decide)) (gX8_findOrder_37 ?_))
    · rw [eA] at g
      have e : zs_ql (q + 1) A = zs_ql q A := by rw [zs_ql_1, if_pos g, List.append_nil]
      have next := ih (q + 1) v (by omega) h hS hW (by rw [e]; exact hO) hG
      rw [e] at next
      rw [nI_1]
      exact next
    · rw [eA] at g
      have e : zs_ql (q + 1) A = zs_ql q A ++ [q] := by rw [zs_ql_1, if_neg g]
      have next := ih (q + 1) (zm_pi v 15 (zs_ql q A).length (nI q)) (by omega) (h.pa (by omega) _) (hS.keep (zm_pa_ne (by decide))) (hW.keep (zm_pa_ne (by decide))) (by
        rw [e]
        intro j hj
        rw [List.length_append, List.length_singleton] at hj
        rw [zm_pa_at]
        by_cases z : j = (zs_ql q A).length
        · rw [z, pk_us]
          simp [List.getD]
        · rw [pk_un z, hO j (by omega)]
          simp [List.getD, List.getElem?_append_left (show j < (zs_ql q A).length by omega)]) (fun k hk => by rw [zm_pa_ne (by omega)]; exact hG k hk)
      rw [e, List.length_append, List.length_singleton] at next
      rw [zx_clamp (by omega), nI_1, nI_1]
      exact next
theorem k_findOrder {d : Nat} {a : zs_A} {v : zm_S} (h : zd_P a v) (hS : zd_S a v) {A T : Option Nat} (hA : ∀ q, A = some q → q < a.1 0 0) (hT : ∀ q, T = some q → q < a.1 0 0) : zm_C zd_H (d + 3) mX8_findOrder [.ref 0, .int (zs_fl A), .int (zs_fl T)] v (zp .null (fun u => zd_P a u ∧ zd_S a u ∧ zd_b (zs_best a A T) u ∧ zd_G v u)) := by
  refine zm_C.of mtX8_findOrder.1.2.2.2.2.2.2 rfl (Nat.le_of_ble_eq_true rfl) ?_
  have hn7 := h.1.1
  have hA7 : ∀ q, A = some q → q < 7 := fun q hq => by have := hA q hq; omega
  have hT7 : ∀ q, T = some q → q < 7 := fun q hq => by have := hT q hq; omega
  refine gX8_findOrder_0 (k_findWrong h hS hA7 hT7) (zp_v (fun u hu => gX8_findOrder_6 ?_))
  obtain ⟨u1, u2, u3, u4⟩ := hu
  refine l_first (d := d + 2) (A := A) (T := T) (v0 := v) hA7 (fun z z1 z2 z3 z4 z5 => gX8_findOrder_43 ?_) (a.1 0 0) 0 u (by omega) u1 u2 u3 (fun j hj => absurd hj (Nat.not_lt_zero j)) (fun k hk => u4 k (by omega))
  have hchk := zs_chk_all hn7.1 hn7.2.1 hA
  unfold zs_chk at hchk
  cases hL : zs_perms (zs_ql (a.1 0 0) A) with
  | nil => rw [hL] at hchk; cases hchk
  | cons l r =>
    rw [hL] at hchk
    simp only at hchk
    rw [Bool.and_eq_true, decide_eq_true_iff] at hchk
    obtain ⟨hc1, hc2⟩ := hchk
    have hlen1 : 1 ≤ l.length := by
      rw [hc1]
      have e0 : (0 : Nat) ∈ zs_ql (a.1 0 0) A ∨ (1 : Nat) ∈ zs_ql (a.1 0 0) A := by
        by_cases z : A = some 0
        · right
          unfold zs_ql
          exact List.mem_filter.mpr ⟨List.mem_range.mpr (by omega), by rw [z]; simp⟩
        · left
          unfold zs_ql
          exact List.mem_filter.mpr ⟨List.mem_range.mpr (by omega), by simpa using z⟩
      rcases e0 with e0 | e0 <;> exact List.length_pos_of_mem e0
    have hlen7 : l.length ≤ 7 := by rw [hc1]; have := zs_ql_len (a.1 0 0) A; omega
    refine gX8_findOrder_58 (fun q => absurd q (by decide)) (fun _ => ?_)
    rw [← hc1] at z4 ⊢
    have fin := l_order (d := d + 1) (a := a) (A := A) (T := T) (v0 := v) r l (10000, 0, []) (zm_pi (zm_pi z 0 21 10000) 0 22 0) hc2 hlen1 hlen7 (fun l' hl' j hj => ?_) ((z1.pf (by decide) _).pf (by decide) _) ((z2.keep (zm_pa_ne (by decide))).keep (zm_pa_ne (by decide))) ((z3.keep (zm_pa_ne (by decide))).keep (zm_pa_ne (by decide))) (fun j hj => by rw [zm_pa_ne (by decide), zm_pa_ne (by decide)]; exact z4 j hj) ⟨by rw [zm_pa_at, pk_un (by decide), zm_pa_at, pk_us]; rfl, by rw [zm_pa_at, pk_us]; rfl, fun j hj => absurd hj (Nat.not_lt_zero j)⟩ (Nat.le_refl _) (fun k hk => by rw [zm_pa_ne (by omega), zm_pa_ne (by omega)]; exact z5 k hk)
    · rw [← hL] at fin
      exact fin
    · rw [← hL] at hl'
      exact zs_ql_lt (zs_prm_mem _ _ l' hl' _ (zs_getD_mem hj))
