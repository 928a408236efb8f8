/-! ===== all rows, in their order ===== -/
def zs_prm : Nat → List Nat → List (List Nat)
  | 0, _ => [[]]
  | m + 1, l => l.flatMap (fun x => (zs_prm m (l.erase x)).map (fun r => x :: r))
def zs_perms (l : List Nat) : List (List Nat) := zs_prm l.length l
def zs_nxl (l : List Nat) : Option (List Nat) := (zs_nxt (fun i => l.getD i 0) l.length).map (fun g => (List.range l.length).map g)
def zs_chn : List Nat → List (List Nat) → Bool
  | l, [] => decide (zs_nxl l = none)
  | l, l' :: r => decide (zs_nxl l = some l') && zs_chn l' r
def zs_chk (l0 : List Nat) (L : List (List Nat)) : Bool := match L with
  | [] => false
  | l :: r => decide (l = l0) && zs_chn l r
def zs_ql (n : Nat) (A : Option Nat) : List Nat := (List.range n).filter (fun q => decide (A ≠ some q))
theorem zs_chk2 : zs_chk (zs_ql 2 none) (zs_perms (zs_ql 2 none)) = true ∧ ∀ q, q < 2 → zs_chk (zs_ql 2 (some q)) (zs_perms (zs_ql 2 (some q))) = true := by decide +kernel
theorem zs_chk3 : zs_chk (zs_ql 3 none) (zs_perms (zs_ql 3 none)) = true ∧ ∀ q, q < 3 → zs_chk (zs_ql 3 (some q)) (zs_perms (zs_ql 3 (some q))) = true := by decide +kernel
theorem zs_chk4 : zs_chk (zs_ql 4 none) (zs_perms (zs_ql 4 none)) = true ∧ ∀ q, q < 4 → zs_chk (zs_ql 4 (some q)) (zs_perms (zs_ql 4 (some q))) = true := by decide +kernel
theorem zs_chk5 : zs_chk (zs_ql 5 none) (zs_perms (zs_ql 5 none)) = true ∧ ∀ q, q < 5 → zs_chk (zs_ql 5 (some q)) (zs_perms (zs_ql 5 (some q))) = true := by decide +kernel
theorem zs_chk6 : zs_chk (zs_ql 6 none) (zs_perms (zs_ql 6 none)) = true ∧ ∀ q, q < 6 → zs_chk (zs_ql 6 (some q)) (zs_perms (zs_ql 6 (some q))) = true := by decide +kernel
theorem zs_chk7a : zs_chk (zs_ql 7 none) (zs_perms (zs_ql 7 none)) = true := by decide +kernel
theorem zs_chk7b : ∀ q, q < 7 → zs_chk (zs_ql 7 (some q)) (zs_perms (zs_ql 7 (some q))) = true := by decide +kernel
