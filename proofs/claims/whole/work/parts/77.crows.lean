/-! ===== the search ===== -/
/-- the tables stand -/
def zt_T (n G : Nat) (W : Nat → Nat → Nat) (V : Nat → Nat) (sk : Bool) (w : zm_S) : Prop := w.1 15 9 = nI n ∧ w.1 15 11 = nI G ∧ w.1 15 8 = zi (sk = true) ∧ ∀ s, s &&& G = s → w.2 18 s = lN (zk (fun p => W p s) 12) ∧ w.2 19 s = lN (zk (fun p => zpc (V p &&& s)) 12)
/-- what the rows that were looked at came to -/
def zt_J (n : Nat) (W : Nat → Nat → Nat) (sk : Bool) (F : Nat) (L : List (List Nat)) (u : zm_S) : Prop := u.1 15 12 = nI (min F (zs_bfold W L).1) ∧ (sk = true → u.1 15 13 = nI (zs_bfold W L).2.1 ∧ ((zs_bfold W L).2.1 ≠ 0 → ∀ j, j < n → u.1 21 j = nI ((zs_bfold W L).2.2.getD j 0)))
/-- what stays -/
def zt_K (sk : Bool) (i : Nat) (w u : zm_S) : Prop := (∀ k, k ≠ 15 → k ≠ 20 → k ≠ 21 → u.1 k = w.1 k) ∧ u.2 = w.2 ∧ (∀ j, j ≠ 12 → j ≠ 13 → u.1 15 j = w.1 15 j) ∧ (∀ j, j < i → u.1 20 j = w.1 20 j) ∧ (sk = false → u.1 21 = w.1 21)
theorem zt_K.rf (sk : Bool) (i : Nat) (w : zm_S) : zt_K sk i w w := ⟨fun _ _ _ _ => rfl, rfl, fun _ _ _ => rfl, fun _ _ => rfl, fun _ => rfl⟩
theorem zt_K.tr {sk : Bool} {i j : Nat} {w u z : zm_S} (h1 : zt_K sk i w u) (h2 : zt_K sk j u z) (h : i ≤ j) : zt_K sk i w z := ⟨fun k a b c => (h2.1 k a b c).trans (h1.1 k a b c), h2.2.1.trans h1.2.1, fun k a b => (h2.2.2.1 k a b).trans (h1.2.2.1 k a b), fun k hk => (h2.2.2.2.1 k (by omega)).trans (h1.2.2.2.1 k hk), fun q => (h2.2.2.2.2 q).trans (h1.2.2.2.2 q)⟩
theorem zt_T.keep {n G : Nat} {W : Nat → Nat → Nat} {V : Nat → Nat} {sk : Bool} {i : Nat} {w u : zm_S} (h : zt_T n G W V sk w) (hK : zt_K sk i w u) : zt_T n G W V sk u := ⟨by rw [hK.2.2.1 9 (by decide) (by decide)]; exact h.1, by rw [hK.2.2.1 11 (by decide) (by decide)]; exact h.2.1, by rw [hK.2.2.1 8 (by decide) (by decide)]; exact h.2.2.1, fun s hs => by rw [hK.2.1]; exact h.2.2.2 s hs⟩
theorem k_isHopeless {d : Nat} {w : zm_S} {sk : Bool} (h8 : w.1 15 8 = zi (sk = true)) {c f : Nat} (h12 : w.1 15 12 = nI c) (hc : c < 2 ^ 31) (hf : f < 2 ^ 31) : zm_C zc_H d mX4_isHopeless [.ref 15, .int (nI f)] w (zq (.int (zi (if sk = true then c < f else c ≤ f))) w) := by
  refine zm_C.of mtX4_isHopeless.1.2.2.2.2.2.2 rfl (Nat.le_of_ble_eq_true rfl) ?_
  refine gX4_isHopeless_0 (fun g => ?_) (fun g => ?_)
  · rw [h8] at g
    have gs := zi_0.mp g
    rw [zi_cong (show (if sk = true then c < f else c ≤ f) ↔ c ≤ f by rw [if_neg gs])]
    refine gX4_isHopeless_23 (fun g2 => gX4_isHopeless_35 ?_) (fun g2 => gX4_isHopeless_31 ?_)
    · rw [h12, nI_ltI hf hc] at g2
      rw [zi_f (by omega)]; exact zq_m _ _
    · rw [h12, nI_ltI hf hc] at g2
      rw [zi_t (by omega)]; exact zq_m _ _
  · rw [h8] at g
    have gs := zi_n0.mp g
    rw [zi_cong (show (if sk = true then c < f else c ≤ f) ↔ c < f by rw [if_pos gs])]
    refine gX4_isHopeless_7 (fun g2 => gX4_isHopeless_19 ?_) (fun g2 => gX4_isHopeless_15 ?_)
    · rw [h12, nI_leI hf hc] at g2
      rw [zi_f (by omega)]; exact zq_m _ _
    · rw [h12, nI_leI hf hc] at g2
      rw [zi_t (by omega)]; exact zq_m _ _
theorem l_judgeC {d : Nat} {n : Nat} (hn : n ≤ 7) {sk : Bool} {w : zm_S} (h9 : w.1 15 9 = nI n) (h8 : w.1 15 8 = zi (sk = true)) {l : List Nat} (ht : ∀ j, j < n → sk = true → w.1 20 j = nI (l.getD j 0)) {Q : Value → zm_S → Prop} (hQ : ∀ u, (∀ k, k ≠ 21 → u.1 k = w.1 k) → u.2 = w.2 → (sk = true → ∀ j, j < n → u.1 21 j = nI (l.getD j 0)) → (sk = false → u.1 21 = w.1 21) → zm_T zc_H d mX4_judge Q 60 [(0, .ref 15)] [] u) : ∀ (m i : Nat) (u : zm_S), i + m = n → (∀ k, k ≠ 21 → u.1 k = w.1 k) → u.2 = w.2 → (sk = true → ∀ j, j < i → u.1 21 j = nI (l.getD j 0)) → (sk = false → u.1 21 = w.1 21) → zm_T zc_H d mX4_judge Q 27 [(0, .ref 15), (2, .int (nI i))] [] u := by
  intro m
  induction m with
  | zero =>
    intro i u hi hk h2 h21 h21f
    obtain rfl : i = n := by omega
    exact gX4_judge_27 (fun _ => hQ u hk h2 h21 h21f) (fun q => absurd (by rw [hk 15 (by decide), h9]; exact Int32.le_refl _) q)
  | succ m ih =>
    intro i u hi hk h2 h21 h21f
    refine gX4_judge_27 (fun q => absurd q (by rw [hk 15 (by decide), h9]; exact nI_ge (by omega) (by omega))) (fun _ => ?_)
    refine gX4_judge_35 (fun g => ?_) (fun g => ?_)
    · rw [hk 15 (by decide), h8] at g
      have gs : sk = false := Bool.not_eq_true _ |>.mp (zi_0.mp g)
      exact hQ u hk h2 (fun z => by rw [gs] at z; cases z) h21f
    · rw [hk 15 (by decide), h8] at g
      have gs := zi_n0.mp g
      refine gX4_judge_42 (vp_in_nI (by omega) (by decide)) (vp_in_nI (by omega) (by decide)) ?_
      rw [nI_1, zx_clamp (by omega), hk 20 (by decide), ht i (by omega) gs]
      refine ih (i + 1) _ (by omega) (fun k q => by rw [zm_pa_ne q]; exact hk k q) h2 (fun _ j hj => ?_) (fun q => by rw [gs] at q; cases q)
      rw [zm_pa_at]
      by_cases z : j = i
      · rw [z, pk_us]
      · rw [pk_un z]; exact h21 gs j (by omega)
theorem k_judgeC {d : Nat} {n : Nat} (hn : n ≤ 7) {W : Nat → Nat → Nat} {sk : Bool} {F : Nat} (hF : F < 10000) {L : List (List Nat)} {w : zm_S} (h9 : w.1 15 9 = nI n) (h8 : w.1 15 8 = zi (sk = true)) (hJ : zt_J n W sk F L w) (hL : L.length < 2 ^ 30) (hLF : ∀ l, l ∈ L → zs_of W l 12 ≤ F) {l : List Nat} (hlF : zs_of W l 12 ≤ F) (ht : ∀ j, j < n → sk = true → w.1 20 j = nI (l.getD j 0)) (hh : ¬ (if sk = true then min F (zs_bfold W L).1 < zs_of W l 12 else min F (zs_bfold W L).1 ≤ zs_of W l 12)) : zm_C zc_H d mX4_judge [.ref 15, .int (nI (zs_of W l 12))] w (zp .null (fun u => zt_J n W sk F (L ++ [l]) u ∧ zt_K sk 7 w u)) := by
  refine zm_C.of mtX4_judge.1.2.2.2.2.2.2 rfl (Nat.le_of_ble_eq_true rfl) ?_
  have hN := zs_bN W L
  have hb0 := zs_b0 W L
  have hbF := zs_bF W hLF
  have e1 := zs_bfold_1 W L l
  have new : zs_of W l 12 < (zs_bfold W L).1 → zm_T zc_H d mX4_judge (zp .null (fun u => zt_J n W sk F (L ++ [l]) u ∧ zt_K sk 7 w u)) 15 [(0, .ref 15), (1, .int (nI (zs_of W l 12)))] [] w := by
    intro c
    have e2 : zs_bfold W (L ++ [l]) = (zs_of W l 12, 1, l) := by rw [e1]; unfold zs_bstep; rw [if_pos c]
    refine gX4_judge_15 ?_
    refine l_judgeC hn (w := zm_pi (zm_pi w 15 12 (nI (zs_of W l 12))) 15 13 0) (sk := sk) (l := l) (by rw [zm_pa_at, pk_un (by decide), zm_pa_at, pk_un (by decide)]; exact h9) (by rw [zm_pa_at, pk_un (by decide), zm_pa_at, pk_un (by decide)]; exact h8) (fun j hj hs => by rw [zm_pa_ne (by decide), zm_pa_ne (by decide)]; exact ht j hj hs) (fun u uk u2 u21 u21f => gX4_judge_60 ?_) n 0 _ (by omega) (fun _ _ => rfl) rfl (fun _ j hj => absurd hj (Nat.not_lt_zero j)) (fun _ => rfl)
    have u15 : u.1 15 = upd (upd (w.1 15) 12 (nI (zs_of W l 12))) 13 0 := by rw [uk 15 (by decide), zm_pa_at, zm_pa_at]
    refine ⟨rfl, ⟨?_, fun hs => ⟨?_, fun _ j hj => ?_⟩⟩, fun k a b cc => ?_, ?_, fun j a b => ?_, fun j hj => ?_, fun hs => ?_⟩
    · rw [zm_pa_at, pk_un (by decide), u15, pk_un (by decide), pk_us, e2, Nat.min_eq_right hlF]
    · rw [zm_pa_at, pk_us, u15, pk_us, e2]; rfl
    · rw [zm_pa_ne (by decide), e2]; exact u21 hs j hj
    · rw [zm_pa_ne a, uk k cc, zm_pa_ne a, zm_pa_ne a]
    · exact u2
    · rw [zm_pa_at, pk_un b, u15, pk_un b, pk_un a]
    · rw [zm_pa_ne (by decide), uk 20 (by decide), zm_pa_ne (by decide), zm_pa_ne (by decide)]
    · rw [zm_pa_ne (by decide), u21f hs, zm_pa_ne (by decide), zm_pa_ne (by decide)]
  refine gX4_judge_0 (fun g => new ?_) (fun g => ?_)
  · rw [hJ.1, nI_ltI (by omega) (by omega)] at g
    omega
  · rw [hJ.1, nI_ltI (by omega) (by omega)] at g
    have gs : sk = true := by
      cases hs : sk
      · rw [hs] at hh
        simp only [Bool.false_eq_true, if_false] at hh
        omega
      · rfl
    rw [if_pos gs] at hh
    obtain ⟨j13, j21⟩ := hJ.2 gs
    refine gX4_judge_8 (fun g2 => gX4_judge_60 ?_) (fun g2 => new ?_)
    · rw [j13] at g2
      have g3 : (zs_bfold W L).2.1 ≠ 0 := fun q => g2 (by rw [q]; rfl)
      have hle := hbF g3
      have e3 : zs_of W l 12 = (zs_bfold W L).1 := by omega
      have e2 : zs_bfold W (L ++ [l]) = ((zs_bfold W L).1, (zs_bfold W L).2.1 + 1, (zs_bfold W L).2.2) := by rw [e1]; unfold zs_bstep; rw [if_neg (by omega), if_pos e3]
      refine ⟨rfl, ⟨?_, fun hs => ⟨?_, fun _ j hj => ?_⟩⟩, fun k a b cc => zm_pa_ne a, rfl, fun j a b => ?_, fun j hj => ?_, fun hs => ?_⟩
      · rw [zm_pa_at, pk_un (by decide), e2]; exact hJ.1
      · rw [zm_pa_at, pk_us, j13, e2, nI_1]
      · rw [zm_pa_ne (by decide), e2]; exact j21 g3 j hj
      · rw [zm_pa_at, pk_un b]
      · rw [zm_pa_ne (by decide)]
      · rw [zm_pa_ne (by decide)]
    · rw [j13] at g2
      have g3 : (zs_bfold W L).2.1 = 0 := (nI_eq (b := 0) (by omega) (by decide)).mp g2
      have := hb0 g3
      omega
