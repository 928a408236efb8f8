def zc_H : List zm_H := [.inr (7, [some 1, some 2, some 11, some 15, some 23, some 28, some 30, some 39, none]), .inl (.int, 4, []), .inr (0, [some 3, some 4, some 5, some 6, some 7, some 8, some 9, some 10, none, none, none, none]), .inl (.byte, 160, []), .inl (.byte, 160, []), .inl (.byte, 160, []), .inl (.short, 160, []), .inl (.int, 12, []), .inl (.int, 12, []), .inl (.int, 7, []), .inl (.int, 7, []), .inr (2, [some 12, some 13, some 14, none, none, none]), .inl (.int, 60, []), .inl (.int, 7, []), .inl (.int, 7, []), .inr (4, [some 16, some 17, some 18, some 19, some 20, some 21, some 22, none, none, none, none, none, none, none, none, none]), .inl (.long, 7, []), .inl (.long, 7, []), .inl (.long, 128, []), .inl (.long, 128, []), .inl (.int, 7, []), .inl (.int, 7, []), .inl (.int, 14, []), .inr (6, [some 24, some 25, some 26, some 27, none, none, none, none]), .inl (.int, 7, []), .inl (.boolean, 128, []), .inl (.int, 128, []), .inl (.int, 128, []), .inr (1, [some 29, none, none]), .inl (.int, 7, []), .inr (3, [some 31, some 32, some 33, none, none, none]), .inl ((.array .int), 5, [34, 35, 36, 37, 38]), .inl (.int, 4, []), .inl (.int, 4, []), .inl (.int, 12, []), .inl (.int, 12, []), .inl (.int, 12, []), .inl (.int, 12, []), .inl (.int, 12, []), .inl ((.object RX5), 4, [40, 42, 44, 46]), .inr (5, [some 41, none, none, none]), .inl (.int, 60, []), .inr (5, [some 43, none, none, none]), .inl (.int, 60, []), .inr (5, [some 45, none, none, none]), .inl (.int, 60, []), .inr (5, [some 47, none, none, none]), .inl (.int, 60, [])]
theorem zc_H0 : zc_H[0]? = some (.inr (7, [some 1, some 2, some 11, some 15, some 23, some 28, some 30, some 39, none])) := rfl
theorem zc_H1 : zc_H[1]? = some (.inl (.int, 4, [])) := rfl
theorem zc_H2 : zc_H[2]? = some (.inr (0, [some 3, some 4, some 5, some 6, some 7, some 8, some 9, some 10, none, none, none, none])) := rfl
theorem zc_H3 : zc_H[3]? = some (.inl (.byte, 160, [])) := rfl
theorem zc_H4 : zc_H[4]? = some (.inl (.byte, 160, [])) := rfl
theorem zc_H5 : zc_H[5]? = some (.inl (.byte, 160, [])) := rfl
theorem zc_H6 : zc_H[6]? = some (.inl (.short, 160, [])) := rfl
theorem zc_H7 : zc_H[7]? = some (.inl (.int, 12, [])) := rfl
theorem zc_H8 : zc_H[8]? = some (.inl (.int, 12, [])) := rfl
theorem zc_H9 : zc_H[9]? = some (.inl (.int, 7, [])) := rfl
theorem zc_H10 : zc_H[10]? = some (.inl (.int, 7, [])) := rfl
theorem zc_H11 : zc_H[11]? = some (.inr (2, [some 12, some 13, some 14, none, none, none])) := rfl
theorem zc_H12 : zc_H[12]? = some (.inl (.int, 60, [])) := rfl
theorem zc_H13 : zc_H[13]? = some (.inl (.int, 7, [])) := rfl
theorem zc_H14 : zc_H[14]? = some (.inl (.int, 7, [])) := rfl
theorem zc_H15 : zc_H[15]? = some (.inr (4, [some 16, some 17, some 18, some 19, some 20, some 21, some 22, none, none, none, none, none, none, none, none, none])) := rfl
theorem zc_H16 : zc_H[16]? = some (.inl (.long, 7, [])) := rfl
theorem zc_H17 : zc_H[17]? = some (.inl (.long, 7, [])) := rfl
theorem zc_H18 : zc_H[18]? = some (.inl (.long, 128, [])) := rfl
theorem zc_H19 : zc_H[19]? = some (.inl (.long, 128, [])) := rfl
theorem zc_H20 : zc_H[20]? = some (.inl (.int, 7, [])) := rfl
theorem zc_H21 : zc_H[21]? = some (.inl (.int, 7, [])) := rfl
theorem zc_H22 : zc_H[22]? = some (.inl (.int, 14, [])) := rfl
theorem zc_H23 : zc_H[23]? = some (.inr (6, [some 24, some 25, some 26, some 27, none, none, none, none])) := rfl
theorem zc_H24 : zc_H[24]? = some (.inl (.int, 7, [])) := rfl
theorem zc_H25 : zc_H[25]? = some (.inl (.boolean, 128, [])) := rfl
theorem zc_H26 : zc_H[26]? = some (.inl (.int, 128, [])) := rfl
theorem zc_H27 : zc_H[27]? = some (.inl (.int, 128, [])) := rfl
theorem zc_H28 : zc_H[28]? = some (.inr (1, [some 29, none, none])) := rfl
theorem zc_H29 : zc_H[29]? = some (.inl (.int, 7, [])) := rfl
theorem zc_H30 : zc_H[30]? = some (.inr (3, [some 31, some 32, some 33, none, none, none])) := rfl
theorem zc_H31 : zc_H[31]? = some (.inl ((.array .int), 5, [34, 35, 36, 37, 38])) := rfl
theorem zc_H32 : zc_H[32]? = some (.inl (.int, 4, [])) := rfl
theorem zc_H33 : zc_H[33]? = some (.inl (.int, 4, [])) := rfl
theorem zc_H34 : zc_H[34]? = some (.inl (.int, 12, [])) := rfl
theorem zc_H35 : zc_H[35]? = some (.inl (.int, 12, [])) := rfl
theorem zc_H36 : zc_H[36]? = some (.inl (.int, 12, [])) := rfl
theorem zc_H37 : zc_H[37]? = some (.inl (.int, 12, [])) := rfl
theorem zc_H38 : zc_H[38]? = some (.inl (.int, 12, [])) := rfl
theorem zc_H39 : zc_H[39]? = some (.inl ((.object RX5), 4, [40, 42, 44, 46])) := rfl
theorem zc_H40 : zc_H[40]? = some (.inr (5, [some 41, none, none, none])) := rfl
theorem zc_H41 : zc_H[41]? = some (.inl (.int, 60, [])) := rfl
theorem zc_H42 : zc_H[42]? = some (.inr (5, [some 43, none, none, none])) := rfl
theorem zc_H43 : zc_H[43]? = some (.inl (.int, 60, [])) := rfl
theorem zc_H44 : zc_H[44]? = some (.inr (5, [some 45, none, none, none])) := rfl
theorem zc_H45 : zc_H[45]? = some (.inl (.int, 60, [])) := rfl
theorem zc_H46 : zc_H[46]? = some (.inr (5, [some 47, none, none, none])) := rfl
theorem zc_H47 : zc_H[47]? = some (.inl (.int, 60, [])) := rfl
def zd_H : List zm_H := [.inr (8, [some 1, some 2, some 3, some 4, none, some 5, none, some 6, some 7, some 8, some 9, some 10, some 11, none, none, none, some 12, some 13, some 14, some 15, some 16, none, none, some 17, some 18, some 19, some 20, some 21, some 22]), .inl (.int, 4, []), .inl (.int, 4, []), .inl (.int, 240, []), .inl (.int, 60, []), .inl (.int, 4, []), .inl (.int, 160, []), .inl (.int, 160, []), .inl (.int, 160, []), .inl (.int, 160, []), .inl (.int, 84, []), .inl (.int, 60, []), .inl (.int, 7, []), .inl (.int, 7, []), .inl (.int, 1536, []), .inl (.int, 7, []), .inl (.int, 7, []), .inl (.int, 128, []), .inl (.int, 14, []), .inl (.int, 7, []), .inl (.int, 16384, []), .inl (.int, 12, []), .inl (.int, 7, [])]
theorem zd_H0 : zd_H[0]? = some (.inr (8, [some 1, some 2, some 3, some 4, none, some 5, none, some 6, some 7, some 8, some 9, some 10, some 11, none, none, none, some 12, some 13, some 14, some 15, some 16, none, none, some 17, some 18, some 19, some 20, some 21, some 22])) := rfl
theorem zd_H1 : zd_H[1]? = some (.inl (.int, 4, [])) := rfl
theorem zd_H2 : zd_H[2]? = some (.inl (.int, 4, [])) := rfl
theorem zd_H3 : zd_H[3]? = some (.inl (.int, 240, [])) := rfl
theorem zd_H4 : zd_H[4]? = some (.inl (.int, 60, [])) := rfl
theorem zd_H5 : zd_H[5]? = some (.inl (.int, 4, [])) := rfl
theorem zd_H6 : zd_H[6]? = some (.inl (.int, 160, [])) := rfl
theorem zd_H7 : zd_H[7]? = some (.inl (.int, 160, [])) := rfl
theorem zd_H8 : zd_H[8]? = some (.inl (.int, 160, [])) := rfl
theorem zd_H9 : zd_H[9]? = some (.inl (.int, 160, [])) := rfl
theorem zd_H10 : zd_H[10]? = some (.inl (.int, 84, [])) := rfl
theorem zd_H11 : zd_H[11]? = some (.inl (.int, 60, [])) := rfl
theorem zd_H12 : zd_H[12]? = some (.inl (.int, 7, [])) := rfl
theorem zd_H13 : zd_H[13]? = some (.inl (.int, 7, [])) := rfl
theorem zd_H14 : zd_H[14]? = some (.inl (.int, 1536, [])) := rfl
theorem zd_H15 : zd_H[15]? = some (.inl (.int, 7, [])) := rfl
theorem zd_H16 : zd_H[16]? = some (.inl (.int, 7, [])) := rfl
theorem zd_H17 : zd_H[17]? = some (.inl (.int, 128, [])) := rfl
theorem zd_H18 : zd_H[18]? = some (.inl (.int, 14, [])) := rfl
theorem zd_H19 : zd_H[19]? = some (.inl (.int, 7, [])) := rfl
theorem zd_H20 : zd_H[20]? = some (.inl (.int, 16384, [])) := rfl
theorem zd_H21 : zd_H[21]? = some (.inl (.int, 12, [])) := rfl
theorem zd_H22 : zd_H[22]? = some (.inl (.int, 7, [])) := rfl
/-- a sheet's place: its row's is the next -/
def zc_sh (o : Nat) : Prop := zc_H[o]? = some (.inr (5, [some (o + 1), none, none, none])) ∧ zc_H[o + 1]? = some (.inl (.int, 60, []))
theorem zc_sh_of {i o : Nat} (h : ([40, 42, 44, 46] : List Nat)[i]? = some o) : zc_sh o := by
  match i, h with
  | 0, h => cases h; exact ⟨rfl, rfl⟩
  | 1, h => cases h; exact ⟨rfl, rfl⟩
  | 2, h => cases h; exact ⟨rfl, rfl⟩
  | 3, h => cases h; exact ⟨rfl, rfl⟩
  | n + 4, h => simp at h
theorem zc_gr_of {i o : Nat} (h : ([34, 35, 36, 37, 38] : List Nat)[i]? = some o) : zc_H[o]? = some (.inl (.int, 12, [])) := by
  match i, h with
  | 0, h => cases h; rfl
  | 1, h => cases h; rfl
  | 2, h => cases h; rfl
  | 3, h => cases h; rfl
  | 4, h => cases h; rfl
  | n + 5, h => simp at h
