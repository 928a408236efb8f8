set_option maxRecDepth 100000 in
theorem zm_in {z : Cond} (i : Nat) (h : lw_tbl[i]? = some z) (hg : goodWord z = true) : z ∈ zm_tb := List.mem_filter.mpr ⟨List.mem_of_getElem? h, hg⟩
set_option maxRecDepth 100000 in
theorem zm_inN {z : Cond} (i : Nat) (h : lw_tbl[i]? = some z) (hg : zm_isN z = true) : z ∈ zm_nt := List.mem_filter.mpr ⟨List.mem_of_getElem? h, hg⟩
set_option maxRecDepth 100000 in
theorem zm_inL {ws : List Cond} (is : List Nat) (h : is.map (fun i => lw_tbl[i]?) = ws.map some) (hg : ws.all goodWord = true) : ∀ z ∈ ws, z ∈ zm_tb := by
  intro z hz
  have h1 : some z ∈ ws.map some := List.mem_map.mpr ⟨z, hz, rfl⟩
  rw [← h] at h1
  obtain ⟨i, -, hi⟩ := List.mem_map.mp h1
  exact zm_in i hi (List.all_eq_true.mp hg z hz)
set_option maxRecDepth 100000 in
theorem clX0 : zm_Cl 0 RX0 TX0 12 := ⟨rfl, zm_inL [123, 125, 127, 129, 131, 133, 135, 137, 139, 141, 143, 145] (by decide +kernel) (by decide +kernel), ⟨tyX0, tyX0_ok⟩, nmX0⟩
set_option maxRecDepth 100000 in
theorem clX1 : zm_Cl 1 RX1 TX1 3 := ⟨rfl, zm_inL [292, 294, 296] (by decide +kernel) (by decide +kernel), ⟨tyX1, tyX1_ok⟩, nmX1⟩
set_option maxRecDepth 100000 in
theorem clX2 : zm_Cl 2 RX2 TX2 6 := ⟨rfl, zm_inL [167, 169, 171, 173, 175, 177] (by decide +kernel) (by decide +kernel), ⟨tyX2, tyX2_ok⟩, nmX2⟩
set_option maxRecDepth 100000 in
theorem clX3 : zm_Cl 3 RX3 TX3 6 := ⟨rfl, zm_inL [315, 317, 319, 321, 323, 325] (by decide +kernel) (by decide +kernel), ⟨tyX3, tyX3_ok⟩, nmX3⟩
set_option maxRecDepth 100000 in
theorem clX4 : zm_Cl 4 RX4 TX4 16 := ⟨rfl, zm_inL [206, 208, 210, 212, 214, 216, 218, 220, 222, 224, 226, 228, 230, 232, 234, 236] (by decide +kernel) (by decide +kernel), ⟨tyX4, tyX4_ok⟩, nmX4⟩
set_option maxRecDepth 100000 in
theorem clX5 : zm_Cl 5 RX5 TX5 4 := ⟨rfl, zm_inL [343, 345, 347, 349] (by decide +kernel) (by decide +kernel), ⟨tyX5, tyX5_ok⟩, nmX5⟩
set_option maxRecDepth 100000 in
theorem clX6 : zm_Cl 6 RX6 TX6 8 := ⟨rfl, zm_inL [265, 267, 269, 271, 273, 275, 277, 279] (by decide +kernel) (by decide +kernel), ⟨tyX6, tyX6_ok⟩, nmX6⟩
set_option maxRecDepth 100000 in
theorem clX7 : zm_Cl 7 RX7 TX7 9 := ⟨rfl, zm_inL [361, 363, 365, 367, 369, 371, 373, 375, 377] (by decide +kernel) (by decide +kernel), ⟨tyX7, tyX7_ok⟩, nmX7⟩
set_option maxRecDepth 100000 in
theorem clX8 : zm_Cl 8 RX8 TX8 29 := ⟨rfl, zm_inL [932, 934, 936, 938, 940, 942, 944, 946, 948, 950, 952, 954, 956, 958, 960, 962, 964, 966, 968, 970, 972, 974, 976, 978, 980, 982, 984, 986, 988] (by decide +kernel) (by decide +kernel), ⟨tyX8, tyX8_ok⟩, nmX8⟩
def mX0_isFull : zm_M := (RX0, yX0_isFull, cX0_isFull, 1, (some .boolean))
set_option maxRecDepth 100000 in
theorem mtX0_isFull : zm_Mv mX0_isFull 0 := ⟨⟨rfl, (zm_in 416 rfl rfl), (zm_in 80 rfl rfl), by decide +kernel, by decide +kernel, by decide +kernel, by decide +kernel⟩, (zm_in 414 rfl rfl), (zm_in 415 rfl rfl)⟩
def mX0_timeFits : zm_M := (RX0, yX0_timeFits, cX0_timeFits, 2, (some .boolean))
set_option maxRecDepth 100000 in
theorem mtX0_timeFits : zm_Mv mX0_timeFits 1 := ⟨⟨rfl, (zm_in 412 rfl rfl), (zm_in 80 rfl rfl), by decide +kernel, by decide +kernel, by decide +kernel, by decide +kernel⟩, (zm_in 410 rfl rfl), (zm_in 411 rfl rfl)⟩
def mX0_tell : zm_M := (RX0, yX0_tell, cX0_tell, 5, none)
set_option maxRecDepth 100000 in
theorem mtX0_tell : zm_Mv mX0_tell 4 := ⟨⟨rfl, (zm_in 424 rfl rfl), (zm_in 80 rfl rfl), by decide +kernel, by decide +kernel, by decide +kernel, by decide +kernel⟩, (zm_in 422 rfl rfl), (zm_in 423 rfl rfl)⟩
def mX0_countAnew : zm_M := (RX0, yX0_countAnew, cX0_countAnew, 4, none)
set_option maxRecDepth 100000 in
theorem mtX0_countAnew : zm_Mv mX0_countAnew 2 := ⟨⟨rfl, (zm_in 394 rfl rfl), (zm_in 80 rfl rfl), by decide +kernel, by decide +kernel, by decide +kernel, by decide +kernel⟩, (zm_in 392 rfl rfl), (zm_in 393 rfl rfl)⟩
def mX0_hear : zm_M := (RX0, yX0_hear, cX0_hear, 4, none)
set_option maxRecDepth 100000 in
theorem mtX0_hear : zm_Mv mX0_hear 3 := ⟨⟨rfl, (zm_in 401 rfl rfl), (zm_in 80 rfl rfl), by decide +kernel, by decide +kernel, by decide +kernel, by decide +kernel⟩, (zm_in 400 rfl rfl), (zm_in 0 rfl rfl)⟩
def mX0_withBit : zm_M := (RX0, yX0_withBit, cX0_withBit, 4, (some .int))
set_option maxRecDepth 100000 in
theorem mtX0_withBit : zm_Ms mX0_withBit 3 := ⟨⟨rfl, (zm_in 404 rfl rfl), (zm_in 80 rfl rfl), by decide +kernel, by decide +kernel, by decide +kernel, by decide +kernel⟩, (zm_in 403 rfl rfl)⟩
def mX0_heard : zm_M := (RX0, yX0_heard, cX0_heard, 4, (some .int))
set_option maxRecDepth 100000 in
theorem mtX0_heard : zm_Mv mX0_heard 2 := ⟨⟨rfl, (zm_in 444 rfl rfl), (zm_in 80 rfl rfl), by decide +kernel, by decide +kernel, by decide +kernel, by decide +kernel⟩, (zm_in 442 rfl rfl), (zm_in 443 rfl rfl)⟩
def mX0_yesOf : zm_M := (RX0, yX0_yesOf, cX0_yesOf, 2, (some .int))
set_option maxRecDepth 100000 in
theorem mtX0_yesOf : zm_Mv mX0_yesOf 1 := ⟨⟨rfl, (zm_in 527 rfl rfl), (zm_in 80 rfl rfl), by decide +kernel, by decide +kernel, by decide +kernel, by decide +kernel⟩, (zm_in 525 rfl rfl), (zm_in 526 rfl rfl)⟩
def mX0_noOf : zm_M := (RX0, yX0_noOf, cX0_noOf, 2, (some .int))
set_option maxRecDepth 100000 in
theorem mtX0_noOf : zm_Mv mX0_noOf 1 := ⟨⟨rfl, (zm_in 531 rfl rfl), (zm_in 80 rfl rfl), by decide +kernel, by decide +kernel, by decide +kernel, by decide +kernel⟩, (zm_in 529 rfl rfl), (zm_in 530 rfl rfl)⟩
def mX0_given : zm_M := (RX0, yX0_given, cX0_given, 2, (some .int))
set_option maxRecDepth 100000 in
theorem mtX0_given : zm_Mv mX0_given 1 := ⟨⟨rfl, (zm_in 628 rfl rfl), (zm_in 80 rfl rfl), by decide +kernel, by decide +kernel, by decide +kernel, by decide +kernel⟩, (zm_in 626 rfl rfl), (zm_in 627 rfl rfl)⟩
def mX0_givenByAll : zm_M := (RX0, yX0_givenByAll, cX0_givenByAll, 3, (some .int))
set_option maxRecDepth 100000 in
theorem mtX0_givenByAll : zm_Mv mX0_givenByAll 0 := ⟨⟨rfl, (zm_in 624 rfl rfl), (zm_in 80 rfl rfl), by decide +kernel, by decide +kernel, by decide +kernel, by decide +kernel⟩, (zm_in 622 rfl rfl), (zm_in 623 rfl rfl)⟩
def mX0_yesByAll : zm_M := (RX0, yX0_yesByAll, cX0_yesByAll, 3, (some .int))
set_option maxRecDepth 100000 in
theorem mtX0_yesByAll : zm_Mv mX0_yesByAll 0 := ⟨⟨rfl, (zm_in 858 rfl rfl), (zm_in 80 rfl rfl), by decide +kernel, by decide +kernel, by decide +kernel, by decide +kernel⟩, (zm_in 856 rfl rfl), (zm_in 857 rfl rfl)⟩
def mX0_pupilsWithSome : zm_M := (RX0, yX0_pupilsWithSome, cX0_pupilsWithSome, 3, (some .int))
set_option maxRecDepth 100000 in
theorem mtX0_pupilsWithSome : zm_Mv mX0_pupilsWithSome 0 := ⟨⟨rfl, (zm_in 862 rfl rfl), (zm_in 80 rfl rfl), by decide +kernel, by decide +kernel, by decide +kernel, by decide +kernel⟩, (zm_in 860 rfl rfl), (zm_in 861 rfl rfl)⟩
def mX0_largerShares : zm_M := (RX0, yX0_largerShares, cX0_largerShares, 3, (some .int))
set_option maxRecDepth 100000 in
theorem mtX0_largerShares : zm_Mv mX0_largerShares 0 := ⟨⟨rfl, (zm_in 632 rfl rfl), (zm_in 80 rfl rfl), by decide +kernel, by decide +kernel, by decide +kernel, by decide +kernel⟩, (zm_in 630 rfl rfl), (zm_in 631 rfl rfl)⟩
def mX0_foundFor : zm_M := (RX0, yX0_foundFor, cX0_foundFor, 7, (some .int))
set_option maxRecDepth 100000 in
theorem mtX0_foundFor : zm_Mv mX0_foundFor 2 := ⟨⟨rfl, (zm_in 509 rfl rfl), (zm_in 80 rfl rfl), by decide +kernel, by decide +kernel, by decide +kernel, by decide +kernel⟩, (zm_in 507 rfl rfl), (zm_in 508 rfl rfl)⟩
def mX0_errorsWith : zm_M := (RX0, yX0_errorsWith, cX0_errorsWith, 3, (some .int))
set_option maxRecDepth 100000 in
theorem mtX0_errorsWith : zm_Mv mX0_errorsWith 2 := ⟨⟨rfl, (zm_in 523 rfl rfl), (zm_in 80 rfl rfl), by decide +kernel, by decide +kernel, by decide +kernel, by decide +kernel⟩, (zm_in 521 rfl rfl), (zm_in 522 rfl rfl)⟩
def mX0_offIn : zm_M := (RX0, yX0_offIn, cX0_offIn, 3, (some .int))
set_option maxRecDepth 100000 in
theorem mtX0_offIn : zm_Mv mX0_offIn 2 := ⟨⟨rfl, (zm_in 604 rfl rfl), (zm_in 80 rfl rfl), by decide +kernel, by decide +kernel, by decide +kernel, by decide +kernel⟩, (zm_in 602 rfl rfl), (zm_in 603 rfl rfl)⟩
def mX0_stepIn : zm_M := (RX0, yX0_stepIn, cX0_stepIn, 3, (some .int))
set_option maxRecDepth 100000 in
theorem mtX0_stepIn : zm_Mv mX0_stepIn 2 := ⟨⟨rfl, (zm_in 594 rfl rfl), (zm_in 80 rfl rfl), by decide +kernel, by decide +kernel, by decide +kernel, by decide +kernel⟩, (zm_in 592 rfl rfl), (zm_in 593 rfl rfl)⟩
def mX0_standing : zm_M := (RX0, yX0_standing, cX0_standing, 6, (some .int))
set_option maxRecDepth 100000 in
theorem mtX0_standing : zm_Mv mX0_standing 2 := ⟨⟨rfl, (zm_in 598 rfl rfl), (zm_in 80 rfl rfl), by decide +kernel, by decide +kernel, by decide +kernel, by decide +kernel⟩, (zm_in 597 rfl rfl), (zm_in 18 rfl rfl)⟩
def mX0_chanceAbove : zm_M := (RX0, yX0_chanceAbove, cX0_chanceAbove, 7, (some .long))
set_option maxRecDepth 100000 in
theorem mtX0_chanceAbove : zm_Mv mX0_chanceAbove 4 := ⟨⟨rfl, (zm_in 757 rfl rfl), (zm_in 80 rfl rfl), by decide +kernel, by decide +kernel, by decide +kernel, by decide +kernel⟩, (zm_in 755 rfl rfl), (zm_in 756 rfl rfl)⟩
def mX0_chanceBelow : zm_M := (RX0, yX0_chanceBelow, cX0_chanceBelow, 2, (some .long))
set_option maxRecDepth 100000 in
theorem mtX0_chanceBelow : zm_Mv mX0_chanceBelow 1 := ⟨⟨rfl, (zm_in 764 rfl rfl), (zm_in 80 rfl rfl), by decide +kernel, by decide +kernel, by decide +kernel, by decide +kernel⟩, (zm_in 762 rfl rfl), (zm_in 763 rfl rfl)⟩
def mX0_power : zm_M := (RX0, yX0_power, cX0_power, 6, (some .long))
set_option maxRecDepth 100000 in
theorem mtX0_power : zm_Ms mX0_power 2 := ⟨⟨rfl, (zm_in 760 rfl rfl), (zm_in 80 rfl rfl), by decide +kernel, by decide +kernel, by decide +kernel, by decide +kernel⟩, (zm_in 759 rfl rfl)⟩
def mX1_begin : zm_M := (RX1, yX1_begin, cX1_begin, 7, (some .int))
set_option maxRecDepth 100000 in
theorem mtX1_begin : zm_Mv mX1_begin 3 := ⟨⟨rfl, (zm_in 723 rfl rfl), (zm_in 84 rfl rfl), by decide +kernel, by decide +kernel, by decide +kernel, by decide +kernel⟩, (zm_in 721 rfl rfl), (zm_in 722 rfl rfl)⟩
def mX1_note : zm_M := (RX1, yX1_note, cX1_note, 4, none)
set_option maxRecDepth 100000 in
theorem mtX1_note : zm_Mv mX1_note 2 := ⟨⟨rfl, (zm_in 728 rfl rfl), (zm_in 84 rfl rfl), by decide +kernel, by decide +kernel, by decide +kernel, by decide +kernel⟩, (zm_in 727 rfl rfl), (zm_in 25 rfl rfl)⟩
def mX1_fewest : zm_M := (RX1, yX1_fewest, cX1_fewest, 2, (some .int))
set_option maxRecDepth 100000 in
theorem mtX1_fewest : zm_Mv mX1_fewest 0 := ⟨⟨rfl, (zm_in 733 rfl rfl), (zm_in 84 rfl rfl), by decide +kernel, by decide +kernel, by decide +kernel, by decide +kernel⟩, (zm_in 731 rfl rfl), (zm_in 732 rfl rfl)⟩
def mX1_first : zm_M := (RX1, yX1_first, cX1_first, 3, (some .int))
set_option maxRecDepth 100000 in
theorem mtX1_first : zm_Mv mX1_first 1 := ⟨⟨rfl, (zm_in 746 rfl rfl), (zm_in 84 rfl rfl), by decide +kernel, by decide +kernel, by decide +kernel, by decide +kernel⟩, (zm_in 744 rfl rfl), (zm_in 745 rfl rfl)⟩
def mX1_suffices : zm_M := (RX1, yX1_suffices, cX1_suffices, 5, (some .boolean))
set_option maxRecDepth 100000 in
theorem mtX1_suffices : zm_Mv mX1_suffices 2 := ⟨⟨rfl, (zm_in 737 rfl rfl), (zm_in 84 rfl rfl), by decide +kernel, by decide +kernel, by decide +kernel, by decide +kernel⟩, (zm_in 736 rfl rfl), (zm_in 26 rfl rfl)⟩
def mX1_splitsWell : zm_M := (RX1, yX1_splitsWell, cX1_splitsWell, 6, (some .boolean))
set_option maxRecDepth 100000 in
theorem mtX1_splitsWell : zm_Mv mX1_splitsWell 3 := ⟨⟨rfl, (zm_in 742 rfl rfl), (zm_in 84 rfl rfl), by decide +kernel, by decide +kernel, by decide +kernel, by decide +kernel⟩, (zm_in 741 rfl rfl), (zm_in 27 rfl rfl)⟩
def mX2_append : zm_M := (RX2, yX2_append, cX2_append, 2, none)
set_option maxRecDepth 100000 in
theorem mtX2_append : zm_Mv mX2_append 1 := ⟨⟨rfl, (zm_in 452 rfl rfl), (zm_in 81 rfl rfl), by decide +kernel, by decide +kernel, by decide +kernel, by decide +kernel⟩, (zm_in 450 rfl rfl), (zm_in 451 rfl rfl)⟩
def mX2_clear : zm_M := (RX2, yX2_clear, cX2_clear, 1, none)
set_option maxRecDepth 100000 in
theorem mtX2_clear : zm_Mv mX2_clear 0 := ⟨⟨rfl, (zm_in 489 rfl rfl), (zm_in 81 rfl rfl), by decide +kernel, by decide +kernel, by decide +kernel, by decide +kernel⟩, (zm_in 487 rfl rfl), (zm_in 488 rfl rfl)⟩
def mX2_readParts : zm_M := (RX2, yX2_readParts, cX2_readParts, 1, none)
set_option maxRecDepth 100000 in
theorem mtX2_readParts : zm_Mv mX2_readParts 0 := ⟨⟨rfl, (zm_in 456 rfl rfl), (zm_in 81 rfl rfl), by decide +kernel, by decide +kernel, by decide +kernel, by decide +kernel⟩, (zm_in 455 rfl rfl), (zm_in 3 rfl rfl)⟩
def mX2_forgetParts : zm_M := (RX2, yX2_forgetParts, cX2_forgetParts, 1, none)
set_option maxRecDepth 100000 in
theorem mtX2_forgetParts : zm_Mv mX2_forgetParts 0 := ⟨⟨rfl, (zm_in 460 rfl rfl), (zm_in 81 rfl rfl), by decide +kernel, by decide +kernel, by decide +kernel, by decide +kernel⟩, (zm_in 459 rfl rfl), (zm_in 4 rfl rfl)⟩
def mX2_firstFault : zm_M := (RX2, yX2_firstFault, cX2_firstFault, 4, (some .int))
set_option maxRecDepth 100000 in
theorem mtX2_firstFault : zm_Mv mX2_firstFault 0 := ⟨⟨rfl, (zm_in 465 rfl rfl), (zm_in 81 rfl rfl), by decide +kernel, by decide +kernel, by decide +kernel, by decide +kernel⟩, (zm_in 464 rfl rfl), (zm_in 5 rfl rfl)⟩
def mX2_faultOfPart : zm_M := (RX2, yX2_faultOfPart, cX2_faultOfPart, 2, (some .int))
set_option maxRecDepth 100000 in
theorem mtX2_faultOfPart : zm_Mv mX2_faultOfPart 1 := ⟨⟨rfl, (zm_in 469 rfl rfl), (zm_in 81 rfl rfl), by decide +kernel, by decide +kernel, by decide +kernel, by decide +kernel⟩, (zm_in 468 rfl rfl), (zm_in 6 rfl rfl)⟩
def mX2_letterAt : zm_M := (RX2, yX2_letterAt, cX2_letterAt, 2, (some .int))
set_option maxRecDepth 100000 in
theorem mtX2_letterAt : zm_Mv mX2_letterAt 1 := ⟨⟨rfl, (zm_in 473 rfl rfl), (zm_in 81 rfl rfl), by decide +kernel, by decide +kernel, by decide +kernel, by decide +kernel⟩, (zm_in 472 rfl rfl), (zm_in 7 rfl rfl)⟩
def mX2_closesCircle : zm_M := (RX2, yX2_closesCircle, cX2_closesCircle, 3, (some .boolean))
set_option maxRecDepth 100000 in
theorem mtX2_closesCircle : zm_Mv mX2_closesCircle 2 := ⟨⟨rfl, (zm_in 477 rfl rfl), (zm_in 81 rfl rfl), by decide +kernel, by decide +kernel, by decide +kernel, by decide +kernel⟩, (zm_in 476 rfl rfl), (zm_in 8 rfl rfl)⟩
def mX2_tellPart : zm_M := (RX2, yX2_tellPart, cX2_tellPart, 5, none)
set_option maxRecDepth 100000 in
theorem mtX2_tellPart : zm_Mv mX2_tellPart 2 := ⟨⟨rfl, (zm_in 481 rfl rfl), (zm_in 81 rfl rfl), by decide +kernel, by decide +kernel, by decide +kernel, by decide +kernel⟩, (zm_in 480 rfl rfl), (zm_in 9 rfl rfl)⟩
def mX3_begin : zm_M := (RX3, yX3_begin, cX3_begin, 1, none)
set_option maxRecDepth 100000 in
theorem mtX3_begin : zm_Mv mX3_begin 0 := ⟨⟨rfl, (zm_in 782 rfl rfl), (zm_in 85 rfl rfl), by decide +kernel, by decide +kernel, by decide +kernel, by decide +kernel⟩, (zm_in 780 rfl rfl), (zm_in 781 rfl rfl)⟩
def mX3_admit : zm_M := (RX3, yX3_admit, cX3_admit, 2, none)
set_option maxRecDepth 100000 in
theorem mtX3_admit : zm_Mv mX3_admit 1 := ⟨⟨rfl, (zm_in 787 rfl rfl), (zm_in 85 rfl rfl), by decide +kernel, by decide +kernel, by decide +kernel, by decide +kernel⟩, (zm_in 785 rfl rfl), (zm_in 786 rfl rfl)⟩
def mX3_choose : zm_M := (RX3, yX3_choose, cX3_choose, 3, none)
set_option maxRecDepth 100000 in
theorem mtX3_choose : zm_Mv mX3_choose 2 := ⟨⟨rfl, (zm_in 791 rfl rfl), (zm_in 85 rfl rfl), by decide +kernel, by decide +kernel, by decide +kernel, by decide +kernel⟩, (zm_in 789 rfl rfl), (zm_in 790 rfl rfl)⟩
def mX3_teach : zm_M := (RX3, yX3_teach, cX3_teach, 5, none)
set_option maxRecDepth 100000 in
theorem mtX3_teach : zm_Mv mX3_teach 3 := ⟨⟨rfl, (zm_in 795 rfl rfl), (zm_in 85 rfl rfl), by decide +kernel, by decide +kernel, by decide +kernel, by decide +kernel⟩, (zm_in 794 rfl rfl), (zm_in 28 rfl rfl)⟩
def mX3_lesson : zm_M := (RX3, yX3_lesson, cX3_lesson, 9, (some .int))
set_option maxRecDepth 100000 in
theorem mtX3_lesson : zm_Mv mX3_lesson 3 := ⟨⟨rfl, (zm_in 806 rfl rfl), (zm_in 85 rfl rfl), by decide +kernel, by decide +kernel, by decide +kernel, by decide +kernel⟩, (zm_in 805 rfl rfl), (zm_in 30 rfl rfl)⟩
def mX3_judge : zm_M := (RX3, yX3_judge, cX3_judge, 2, none)
set_option maxRecDepth 100000 in
theorem mtX3_judge : zm_Mv mX3_judge 1 := ⟨⟨rfl, (zm_in 799 rfl rfl), (zm_in 85 rfl rfl), by decide +kernel, by decide +kernel, by decide +kernel, by decide +kernel⟩, (zm_in 798 rfl rfl), (zm_in 29 rfl rfl)⟩
def mX4_searchBest : zm_M := (RX4, yX4_searchBest, cX4_searchBest, 2, none)
set_option maxRecDepth 100000 in
theorem mtX4_searchBest : zm_Mv mX4_searchBest 1 := ⟨⟨rfl, (zm_in 539 rfl rfl), (zm_in 82 rfl rfl), by decide +kernel, by decide +kernel, by decide +kernel, by decide +kernel⟩, (zm_in 537 rfl rfl), (zm_in 538 rfl rfl)⟩
def mX4_offChanged : zm_M := (RX4, yX4_offChanged, cX4_offChanged, 4, (some .int))
set_option maxRecDepth 100000 in
theorem mtX4_offChanged : zm_Mv mX4_offChanged 2 := ⟨⟨rfl, (zm_in 653 rfl rfl), (zm_in 82 rfl rfl), by decide +kernel, by decide +kernel, by decide +kernel, by decide +kernel⟩, (zm_in 651 rfl rfl), (zm_in 652 rfl rfl)⟩
def mX4_takeAnswers : zm_M := (RX4, yX4_takeAnswers, cX4_takeAnswers, 7, none)
set_option maxRecDepth 100000 in
theorem mtX4_takeAnswers : zm_Mv mX4_takeAnswers 1 := ⟨⟨rfl, (zm_in 543 rfl rfl), (zm_in 82 rfl rfl), by decide +kernel, by decide +kernel, by decide +kernel, by decide +kernel⟩, (zm_in 542 rfl rfl), (zm_in 12 rfl rfl)⟩
def mX4_turn : zm_M := (RX4, yX4_turn, cX4_turn, 4, none)
set_option maxRecDepth 100000 in
theorem mtX4_turn : zm_Mv mX4_turn 1 := ⟨⟨rfl, (zm_in 657 rfl rfl), (zm_in 82 rfl rfl), by decide +kernel, by decide +kernel, by decide +kernel, by decide +kernel⟩, (zm_in 656 rfl rfl), (zm_in 20 rfl rfl)⟩
def mX4_search : zm_M := (RX4, yX4_search, cX4_search, 4, none)
set_option maxRecDepth 100000 in
theorem mtX4_search : zm_Mv mX4_search 1 := ⟨⟨rfl, (zm_in 552 rfl rfl), (zm_in 82 rfl rfl), by decide +kernel, by decide +kernel, by decide +kernel, by decide +kernel⟩, (zm_in 551 rfl rfl), (zm_in 13 rfl rfl)⟩
def mX4_fillTables : zm_M := (RX4, yX4_fillTables, cX4_fillTables, 4, none)
set_option maxRecDepth 100000 in
theorem mtX4_fillTables : zm_Mv mX4_fillTables 0 := ⟨⟨rfl, (zm_in 556 rfl rfl), (zm_in 82 rfl rfl), by decide +kernel, by decide +kernel, by decide +kernel, by decide +kernel⟩, (zm_in 555 rfl rfl), (zm_in 14 rfl rfl)⟩
def mX4_extend : zm_M := (RX4, yX4_extend, cX4_extend, 10, none)
set_option maxRecDepth 100000 in
theorem mtX4_extend : zm_Mv mX4_extend 3 := ⟨⟨rfl, (zm_in 574 rfl rfl), (zm_in 82 rfl rfl), by decide +kernel, by decide +kernel, by decide +kernel, by decide +kernel⟩, (zm_in 573 rfl rfl), (zm_in 15 rfl rfl)⟩
def mX4_isHopeless : zm_M := (RX4, yX4_isHopeless, cX4_isHopeless, 2, (some .boolean))
set_option maxRecDepth 100000 in
theorem mtX4_isHopeless : zm_Mv mX4_isHopeless 1 := ⟨⟨rfl, (zm_in 578 rfl rfl), (zm_in 82 rfl rfl), by decide +kernel, by decide +kernel, by decide +kernel, by decide +kernel⟩, (zm_in 577 rfl rfl), (zm_in 16 rfl rfl)⟩
def mX4_judge : zm_M := (RX4, yX4_judge, cX4_judge, 3, none)
set_option maxRecDepth 100000 in
theorem mtX4_judge : zm_Mv mX4_judge 1 := ⟨⟨rfl, (zm_in 582 rfl rfl), (zm_in 82 rfl rfl), by decide +kernel, by decide +kernel, by decide +kernel, by decide +kernel⟩, (zm_in 581 rfl rfl), (zm_in 17 rfl rfl)⟩
def mX4_lesser : zm_M := (RX4, yX4_lesser, cX4_lesser, 8, (some .long))
set_option maxRecDepth 100000 in
theorem mtX4_lesser : zm_Ms mX4_lesser 2 := ⟨⟨rfl, (zm_in 563 rfl rfl), (zm_in 82 rfl rfl), by decide +kernel, by decide +kernel, by decide +kernel, by decide +kernel⟩, (zm_in 562 rfl rfl)⟩
def mX4_total : zm_M := (RX4, yX4_total, cX4_total, 4, (some .int))
set_option maxRecDepth 100000 in
theorem mtX4_total : zm_Ms mX4_total 1 := ⟨⟨rfl, (zm_in 568 rfl rfl), (zm_in 82 rfl rfl), by decide +kernel, by decide +kernel, by decide +kernel, by decide +kernel⟩, (zm_in 567 rfl rfl)⟩
def mX5_renew : zm_M := (RX5, yX5_renew, cX5_renew, 3, none)
set_option maxRecDepth 100000 in
theorem mtX5_renew : zm_Mv mX5_renew 2 := ⟨⟨rfl, (zm_in 814 rfl rfl), (zm_in 86 rfl rfl), by decide +kernel, by decide +kernel, by decide +kernel, by decide +kernel⟩, (zm_in 812 rfl rfl), (zm_in 813 rfl rfl)⟩
def mX5_findingAt : zm_M := (RX5, yX5_findingAt, cX5_findingAt, 3, (some .int))
set_option maxRecDepth 100000 in
theorem mtX5_findingAt : zm_Mv mX5_findingAt 2 := ⟨⟨rfl, (zm_in 827 rfl rfl), (zm_in 86 rfl rfl), by decide +kernel, by decide +kernel, by decide +kernel, by decide +kernel⟩, (zm_in 825 rfl rfl), (zm_in 826 rfl rfl)⟩
def mX5_hasRange : zm_M := (RX5, yX5_hasRange, cX5_hasRange, 3, (some .boolean))
set_option maxRecDepth 100000 in
theorem mtX5_hasRange : zm_Mv mX5_hasRange 2 := ⟨⟨rfl, (zm_in 845 rfl rfl), (zm_in 86 rfl rfl), by decide +kernel, by decide +kernel, by decide +kernel, by decide +kernel⟩, (zm_in 843 rfl rfl), (zm_in 844 rfl rfl)⟩
def mX5_put : zm_M := (RX5, yX5_put, cX5_put, 3, none)
set_option maxRecDepth 100000 in
theorem mtX5_put : zm_Mv mX5_put 2 := ⟨⟨rfl, (zm_in 832 rfl rfl), (zm_in 86 rfl rfl), by decide +kernel, by decide +kernel, by decide +kernel, by decide +kernel⟩, (zm_in 830 rfl rfl), (zm_in 831 rfl rfl)⟩
def mX6_begin : zm_M := (RX6, yX6_begin, cX6_begin, 2, none)
set_option maxRecDepth 100000 in
theorem mtX6_begin : zm_Mv mX6_begin 1 := ⟨⟨rfl, (zm_in 673 rfl rfl), (zm_in 83 rfl rfl), by decide +kernel, by decide +kernel, by decide +kernel, by decide +kernel⟩, (zm_in 671 rfl rfl), (zm_in 672 rfl rfl)⟩
def mX6_gather : zm_M := (RX6, yX6_gather, cX6_gather, 2, none)
set_option maxRecDepth 100000 in
theorem mtX6_gather : zm_Mv mX6_gather 0 := ⟨⟨rfl, (zm_in 677 rfl rfl), (zm_in 83 rfl rfl), by decide +kernel, by decide +kernel, by decide +kernel, by decide +kernel⟩, (zm_in 675 rfl rfl), (zm_in 676 rfl rfl)⟩
def mX6_holdsNeeds : zm_M := (RX6, yX6_holdsNeeds, cX6_holdsNeeds, 3, (some .boolean))
set_option maxRecDepth 100000 in
theorem mtX6_holdsNeeds : zm_Mv mX6_holdsNeeds 1 := ⟨⟨rfl, (zm_in 681 rfl rfl), (zm_in 83 rfl rfl), by decide +kernel, by decide +kernel, by decide +kernel, by decide +kernel⟩, (zm_in 680 rfl rfl), (zm_in 22 rfl rfl)⟩
def mX6_neighbours : zm_M := (RX6, yX6_neighbours, cX6_neighbours, 4, (some .int))
set_option maxRecDepth 100000 in
theorem mtX6_neighbours : zm_Mv mX6_neighbours 1 := ⟨⟨rfl, (zm_in 701 rfl rfl), (zm_in 83 rfl rfl), by decide +kernel, by decide +kernel, by decide +kernel, by decide +kernel⟩, (zm_in 699 rfl rfl), (zm_in 700 rfl rfl)⟩
def mX6_waysToAll : zm_M := (RX6, yX6_waysToAll, cX6_waysToAll, 5, (some .int))
set_option maxRecDepth 100000 in
theorem mtX6_waysToAll : zm_Mv mX6_waysToAll 0 := ⟨⟨rfl, (zm_in 709 rfl rfl), (zm_in 83 rfl rfl), by decide +kernel, by decide +kernel, by decide +kernel, by decide +kernel⟩, (zm_in 707 rfl rfl), (zm_in 708 rfl rfl)⟩
def mX7_set : zm_M := (RX7, yX7_set, cX7_set, 4, (some .int))
set_option maxRecDepth 100000 in
theorem mtX7_set : zm_Mv mX7_set 2 := ⟨⟨rfl, (zm_in 383 rfl rfl), (zm_in 79 rfl rfl), by decide +kernel, by decide +kernel, by decide +kernel, by decide +kernel⟩, (zm_in 381 rfl rfl), (zm_in 382 rfl rfl)⟩
def mX7_answer : zm_M := (RX7, yX7_answer, cX7_answer, 5, (some .int))
set_option maxRecDepth 100000 in
theorem mtX7_answer : zm_Mv mX7_answer 4 := ⟨⟨rfl, (zm_in 408 rfl rfl), (zm_in 79 rfl rfl), by decide +kernel, by decide +kernel, by decide +kernel, by decide +kernel⟩, (zm_in 406 rfl rfl), (zm_in 407 rfl rfl)⟩
def mX7_read : zm_M := (RX7, yX7_read, cX7_read, 8, (some .int))
set_option maxRecDepth 100000 in
theorem mtX7_read : zm_Mv mX7_read 3 := ⟨⟨rfl, (zm_in 429 rfl rfl), (zm_in 79 rfl rfl), by decide +kernel, by decide +kernel, by decide +kernel, by decide +kernel⟩, (zm_in 427 rfl rfl), (zm_in 428 rfl rfl)⟩
def mX7_said : zm_M := (RX7, yX7_said, cX7_said, 3, (some .int))
set_option maxRecDepth 100000 in
theorem mtX7_said : zm_Mv mX7_said 2 := ⟨⟨rfl, (zm_in 440 rfl rfl), (zm_in 79 rfl rfl), by decide +kernel, by decide +kernel, by decide +kernel, by decide +kernel⟩, (zm_in 438 rfl rfl), (zm_in 439 rfl rfl)⟩
def mX7_type : zm_M := (RX7, yX7_type, cX7_type, 2, (some .int))
set_option maxRecDepth 100000 in
theorem mtX7_type : zm_Mv mX7_type 1 := ⟨⟨rfl, (zm_in 448 rfl rfl), (zm_in 79 rfl rfl), by decide +kernel, by decide +kernel, by decide +kernel, by decide +kernel⟩, (zm_in 446 rfl rfl), (zm_in 447 rfl rfl)⟩
def mX7_wipe : zm_M := (RX7, yX7_wipe, cX7_wipe, 2, (some .int))
set_option maxRecDepth 100000 in
theorem mtX7_wipe : zm_Mv mX7_wipe 0 := ⟨⟨rfl, (zm_in 485 rfl rfl), (zm_in 79 rfl rfl), by decide +kernel, by decide +kernel, by decide +kernel, by decide +kernel⟩, (zm_in 483 rfl rfl), (zm_in 484 rfl rfl)⟩
def mX7_fault : zm_M := (RX7, yX7_fault, cX7_fault, 1, (some .int))
set_option maxRecDepth 100000 in
theorem mtX7_fault : zm_Mv mX7_fault 0 := ⟨⟨rfl, (zm_in 493 rfl rfl), (zm_in 79 rfl rfl), by decide +kernel, by decide +kernel, by decide +kernel, by decide +kernel⟩, (zm_in 491 rfl rfl), (zm_in 492 rfl rfl)⟩
def mX7_needed : zm_M := (RX7, yX7_needed, cX7_needed, 4, (some .int))
set_option maxRecDepth 100000 in
theorem mtX7_needed : zm_Mv mX7_needed 3 := ⟨⟨rfl, (zm_in 497 rfl rfl), (zm_in 79 rfl rfl), by decide +kernel, by decide +kernel, by decide +kernel, by decide +kernel⟩, (zm_in 495 rfl rfl), (zm_in 496 rfl rfl)⟩
def mX7_errors : zm_M := (RX7, yX7_errors, cX7_errors, 3, (some .int))
set_option maxRecDepth 100000 in
theorem mtX7_errors : zm_Mv mX7_errors 2 := ⟨⟨rfl, (zm_in 519 rfl rfl), (zm_in 79 rfl rfl), by decide +kernel, by decide +kernel, by decide +kernel, by decide +kernel⟩, (zm_in 517 rfl rfl), (zm_in 518 rfl rfl)⟩
def mX7_off : zm_M := (RX7, yX7_off, cX7_off, 2, (some .int))
set_option maxRecDepth 100000 in
theorem mtX7_off : zm_Mv mX7_off 1 := ⟨⟨rfl, (zm_in 535 rfl rfl), (zm_in 79 rfl rfl), by decide +kernel, by decide +kernel, by decide +kernel, by decide +kernel⟩, (zm_in 533 rfl rfl), (zm_in 534 rfl rfl)⟩
def mX7_row : zm_M := (RX7, yX7_row, cX7_row, 2, (some .int))
set_option maxRecDepth 100000 in
theorem mtX7_row : zm_Mv mX7_row 1 := ⟨⟨rfl, (zm_in 586 rfl rfl), (zm_in 79 rfl rfl), by decide +kernel, by decide +kernel, by decide +kernel, by decide +kernel⟩, (zm_in 584 rfl rfl), (zm_in 585 rfl rfl)⟩
def mX7_step : zm_M := (RX7, yX7_step, cX7_step, 3, (some .int))
set_option maxRecDepth 100000 in
theorem mtX7_step : zm_Mv mX7_step 2 := ⟨⟨rfl, (zm_in 590 rfl rfl), (zm_in 79 rfl rfl), by decide +kernel, by decide +kernel, by decide +kernel, by decide +kernel⟩, (zm_in 588 rfl rfl), (zm_in 589 rfl rfl)⟩
def mX7_offBy : zm_M := (RX7, yX7_offBy, cX7_offBy, 5, (some .int))
set_option maxRecDepth 100000 in
theorem mtX7_offBy : zm_Mv mX7_offBy 1 := ⟨⟨rfl, (zm_in 608 rfl rfl), (zm_in 79 rfl rfl), by decide +kernel, by decide +kernel, by decide +kernel, by decide +kernel⟩, (zm_in 606 rfl rfl), (zm_in 607 rfl rfl)⟩
def mX7_fit : zm_M := (RX7, yX7_fit, cX7_fit, 5, (some .long))
set_option maxRecDepth 100000 in
theorem mtX7_fit : zm_Mv mX7_fit 2 := ⟨⟨rfl, (zm_in 616 rfl rfl), (zm_in 79 rfl rfl), by decide +kernel, by decide +kernel, by decide +kernel, by decide +kernel⟩, (zm_in 614 rfl rfl), (zm_in 615 rfl rfl)⟩
def mX7_odd : zm_M := (RX7, yX7_odd, cX7_odd, 5, (some .int))
set_option maxRecDepth 100000 in
theorem mtX7_odd : zm_Mv mX7_odd 0 := ⟨⟨rfl, (zm_in 645 rfl rfl), (zm_in 79 rfl rfl), by decide +kernel, by decide +kernel, by decide +kernel, by decide +kernel⟩, (zm_in 643 rfl rfl), (zm_in 644 rfl rfl)⟩
def mX7_without : zm_M := (RX7, yX7_without, cX7_without, 3, (some .int))
set_option maxRecDepth 100000 in
theorem mtX7_without : zm_Mv mX7_without 2 := ⟨⟨rfl, (zm_in 649 rfl rfl), (zm_in 79 rfl rfl), by decide +kernel, by decide +kernel, by decide +kernel, by decide +kernel⟩, (zm_in 647 rfl rfl), (zm_in 648 rfl rfl)⟩
def mX7_worst : zm_M := (RX7, yX7_worst, cX7_worst, 4, (some .int))
set_option maxRecDepth 100000 in
theorem mtX7_worst : zm_Mv mX7_worst 1 := ⟨⟨rfl, (zm_in 661 rfl rfl), (zm_in 79 rfl rfl), by decide +kernel, by decide +kernel, by decide +kernel, by decide +kernel⟩, (zm_in 659 rfl rfl), (zm_in 660 rfl rfl)⟩
def mX7_states : zm_M := (RX7, yX7_states, cX7_states, 2, (some .int))
set_option maxRecDepth 100000 in
theorem mtX7_states : zm_Mv mX7_states 1 := ⟨⟨rfl, (zm_in 665 rfl rfl), (zm_in 79 rfl rfl), by decide +kernel, by decide +kernel, by decide +kernel, by decide +kernel⟩, (zm_in 663 rfl rfl), (zm_in 664 rfl rfl)⟩
def mX7_belongs : zm_M := (RX7, yX7_belongs, cX7_belongs, 5, (some .int))
set_option maxRecDepth 100000 in
theorem mtX7_belongs : zm_Mv mX7_belongs 2 := ⟨⟨rfl, (zm_in 685 rfl rfl), (zm_in 79 rfl rfl), by decide +kernel, by decide +kernel, by decide +kernel, by decide +kernel⟩, (zm_in 683 rfl rfl), (zm_in 684 rfl rfl)⟩
def mX7_next : zm_M := (RX7, yX7_next, cX7_next, 4, (some .int))
set_option maxRecDepth 100000 in
theorem mtX7_next : zm_Mv mX7_next 2 := ⟨⟨rfl, (zm_in 697 rfl rfl), (zm_in 79 rfl rfl), by decide +kernel, by decide +kernel, by decide +kernel, by decide +kernel⟩, (zm_in 695 rfl rfl), (zm_in 696 rfl rfl)⟩
def mX7_paths : zm_M := (RX7, yX7_paths, cX7_paths, 1, (some .int))
set_option maxRecDepth 100000 in
theorem mtX7_paths : zm_Mv mX7_paths 0 := ⟨⟨rfl, (zm_in 705 rfl rfl), (zm_in 79 rfl rfl), by decide +kernel, by decide +kernel, by decide +kernel, by decide +kernel⟩, (zm_in 703 rfl rfl), (zm_in 704 rfl rfl)⟩
def mX7_deep : zm_M := (RX7, yX7_deep, cX7_deep, 4, (some .int))
set_option maxRecDepth 100000 in
theorem mtX7_deep : zm_Mv mX7_deep 1 := ⟨⟨rfl, (zm_in 714 rfl rfl), (zm_in 79 rfl rfl), by decide +kernel, by decide +kernel, by decide +kernel, by decide +kernel⟩, (zm_in 712 rfl rfl), (zm_in 713 rfl rfl)⟩
def mX7_sure : zm_M := (RX7, yX7_sure, cX7_sure, 6, (some .int))
set_option maxRecDepth 100000 in
theorem mtX7_sure : zm_Mv mX7_sure 3 := ⟨⟨rfl, (zm_in 719 rfl rfl), (zm_in 79 rfl rfl), by decide +kernel, by decide +kernel, by decide +kernel, by decide +kernel⟩, (zm_in 717 rfl rfl), (zm_in 718 rfl rfl)⟩
def mX7_chance : zm_M := (RX7, yX7_chance, cX7_chance, 6, (some .long))
set_option maxRecDepth 100000 in
theorem mtX7_chance : zm_Mv mX7_chance 5 := ⟨⟨rfl, (zm_in 750 rfl rfl), (zm_in 79 rfl rfl), by decide +kernel, by decide +kernel, by decide +kernel, by decide +kernel⟩, (zm_in 748 rfl rfl), (zm_in 749 rfl rfl)⟩
def mX7_share : zm_M := (RX7, yX7_share, cX7_share, 10, (some .long))
set_option maxRecDepth 100000 in
theorem mtX7_share : zm_Mv mX7_share 5 := ⟨⟨rfl, (zm_in 769 rfl rfl), (zm_in 79 rfl rfl), by decide +kernel, by decide +kernel, by decide +kernel, by decide +kernel⟩, (zm_in 767 rfl rfl), (zm_in 768 rfl rfl)⟩
def mX7_likeliest : zm_M := (RX7, yX7_likeliest, cX7_likeliest, 10, (some .int))
set_option maxRecDepth 100000 in
theorem mtX7_likeliest : zm_Mv mX7_likeliest 3 := ⟨⟨rfl, (zm_in 773 rfl rfl), (zm_in 79 rfl rfl), by decide +kernel, by decide +kernel, by decide +kernel, by decide +kernel⟩, (zm_in 771 rfl rfl), (zm_in 772 rfl rfl)⟩
def mX7_lessons : zm_M := (RX7, yX7_lessons, cX7_lessons, 4, (some .int))
set_option maxRecDepth 100000 in
theorem mtX7_lessons : zm_Mv mX7_lessons 2 := ⟨⟨rfl, (zm_in 778 rfl rfl), (zm_in 79 rfl rfl), by decide +kernel, by decide +kernel, by decide +kernel, by decide +kernel⟩, (zm_in 776 rfl rfl), (zm_in 777 rfl rfl)⟩
def mX7_sheet : zm_M := (RX7, yX7_sheet, cX7_sheet, 4, (some .int))
set_option maxRecDepth 100000 in
theorem mtX7_sheet : zm_Mv mX7_sheet 3 := ⟨⟨rfl, (zm_in 810 rfl rfl), (zm_in 79 rfl rfl), by decide +kernel, by decide +kernel, by decide +kernel, by decide +kernel⟩, (zm_in 808 rfl rfl), (zm_in 809 rfl rfl)⟩
def mX7_lose : zm_M := (RX7, yX7_lose, cX7_lose, 2, (some .int))
set_option maxRecDepth 100000 in
theorem mtX7_lose : zm_Mv mX7_lose 1 := ⟨⟨rfl, (zm_in 819 rfl rfl), (zm_in 79 rfl rfl), by decide +kernel, by decide +kernel, by decide +kernel, by decide +kernel⟩, (zm_in 817 rfl rfl), (zm_in 818 rfl rfl)⟩
def mX7_lay : zm_M := (RX7, yX7_lay, cX7_lay, 6, (some .int))
set_option maxRecDepth 100000 in
theorem mtX7_lay : zm_Mv mX7_lay 4 := ⟨⟨rfl, (zm_in 823 rfl rfl), (zm_in 79 rfl rfl), by decide +kernel, by decide +kernel, by decide +kernel, by decide +kernel⟩, (zm_in 821 rfl rfl), (zm_in 822 rfl rfl)⟩
def mX7_get : zm_M := (RX7, yX7_get, cX7_get, 5, (some .int))
set_option maxRecDepth 100000 in
theorem mtX7_get : zm_Mv mX7_get 3 := ⟨⟨rfl, (zm_in 836 rfl rfl), (zm_in 79 rfl rfl), by decide +kernel, by decide +kernel, by decide +kernel, by decide +kernel⟩, (zm_in 834 rfl rfl), (zm_in 835 rfl rfl)⟩
def mX7_copy : zm_M := (RX7, yX7_copy, cX7_copy, 8, (some .int))
set_option maxRecDepth 100000 in
theorem mtX7_copy : zm_Mv mX7_copy 5 := ⟨⟨rfl, (zm_in 841 rfl rfl), (zm_in 79 rfl rfl), by decide +kernel, by decide +kernel, by decide +kernel, by decide +kernel⟩, (zm_in 839 rfl rfl), (zm_in 840 rfl rfl)⟩
def mX7_write : zm_M := (RX7, yX7_write, cX7_write, 5, (some .int))
set_option maxRecDepth 100000 in
theorem mtX7_write : zm_Mv mX7_write 1 := ⟨⟨rfl, (zm_in 850 rfl rfl), (zm_in 79 rfl rfl), by decide +kernel, by decide +kernel, by decide +kernel, by decide +kernel⟩, (zm_in 848 rfl rfl), (zm_in 849 rfl rfl)⟩
def mX7_count : zm_M := (RX7, yX7_count, cX7_count, 2, (some .int))
set_option maxRecDepth 100000 in
theorem mtX7_count : zm_Mv mX7_count 1 := ⟨⟨rfl, (zm_in 854 rfl rfl), (zm_in 79 rfl rfl), by decide +kernel, by decide +kernel, by decide +kernel, by decide +kernel⟩, (zm_in 852 rfl rfl), (zm_in 853 rfl rfl)⟩
def mX7_digest : zm_M := (RX7, yX7_digest, cX7_digest, 4, (some .long))
set_option maxRecDepth 100000 in
theorem mtX7_digest : zm_Mv mX7_digest 0 := ⟨⟨rfl, (zm_in 866 rfl rfl), (zm_in 79 rfl rfl), by decide +kernel, by decide +kernel, by decide +kernel, by decide +kernel⟩, (zm_in 864 rfl rfl), (zm_in 865 rfl rfl)⟩
def mX7_join : zm_M := (RX7, yX7_join, cX7_join, 4, (some .long))
set_option maxRecDepth 100000 in
theorem mtX7_join : zm_Ms mX7_join 2 := ⟨⟨rfl, (zm_in 871 rfl rfl), (zm_in 79 rfl rfl), by decide +kernel, by decide +kernel, by decide +kernel, by decide +kernel⟩, (zm_in 870 rfl rfl)⟩
def mX7_joinPupil : zm_M := (RX7, yX7_joinPupil, cX7_joinPupil, 7, (some .long))
set_option maxRecDepth 100000 in
theorem mtX7_joinPupil : zm_Mv mX7_joinPupil 2 := ⟨⟨rfl, (zm_in 877 rfl rfl), (zm_in 79 rfl rfl), by decide +kernel, by decide +kernel, by decide +kernel, by decide +kernel⟩, (zm_in 876 rfl rfl), (zm_in 31 rfl rfl)⟩
def mX7_joinQuestion : zm_M := (RX7, yX7_joinQuestion, cX7_joinQuestion, 7, (some .long))
set_option maxRecDepth 100000 in
theorem mtX7_joinQuestion : zm_Mv mX7_joinQuestion 2 := ⟨⟨rfl, (zm_in 885 rfl rfl), (zm_in 79 rfl rfl), by decide +kernel, by decide +kernel, by decide +kernel, by decide +kernel⟩, (zm_in 884 rfl rfl), (zm_in 32 rfl rfl)⟩
def mX7_within : zm_M := (RX7, yX7_within, cX7_within, 2, (some .boolean))
set_option maxRecDepth 100000 in
theorem mtX7_within : zm_Ms mX7_within 2 := ⟨⟨rfl, (zm_in 386 rfl rfl), (zm_in 79 rfl rfl), by decide +kernel, by decide +kernel, by decide +kernel, by decide +kernel⟩, (zm_in 385 rfl rfl)⟩
def mX7_isQuestion : zm_M := (RX7, yX7_isQuestion, cX7_isQuestion, 2, (some .boolean))
set_option maxRecDepth 100000 in
theorem mtX7_isQuestion : zm_Mv mX7_isQuestion 1 := ⟨⟨rfl, (zm_in 501 rfl rfl), (zm_in 79 rfl rfl), by decide +kernel, by decide +kernel, by decide +kernel, by decide +kernel⟩, (zm_in 500 rfl rfl), (zm_in 10 rfl rfl)⟩
def mX7_chanceFits : zm_M := (RX7, yX7_chanceFits, cX7_chanceFits, 4, (some .boolean))
set_option maxRecDepth 100000 in
theorem mtX7_chanceFits : zm_Ms mX7_chanceFits 4 := ⟨⟨rfl, (zm_in 753 rfl rfl), (zm_in 79 rfl rfl), by decide +kernel, by decide +kernel, by decide +kernel, by decide +kernel⟩, (zm_in 752 rfl rfl)⟩
def mX7_refusal : zm_M := (RX7, yX7_refusal, cX7_refusal, 1, (some .long))
set_option maxRecDepth 100000 in
theorem mtX7_refusal : zm_Ms mX7_refusal 1 := ⟨⟨rfl, (zm_in 619 rfl rfl), (zm_in 79 rfl rfl), by decide +kernel, by decide +kernel, by decide +kernel, by decide +kernel⟩, (zm_in 618 rfl rfl)⟩
def mX7_tellFinding : zm_M := (RX7, yX7_tellFinding, cX7_tellFinding, 2, (some .int))
set_option maxRecDepth 100000 in
theorem mtX7_tellFinding : zm_Mv mX7_tellFinding 1 := ⟨⟨rfl, (zm_in 433 rfl rfl), (zm_in 79 rfl rfl), by decide +kernel, by decide +kernel, by decide +kernel, by decide +kernel⟩, (zm_in 432 rfl rfl), (zm_in 2 rfl rfl)⟩
def mX7_tellOne : zm_M := (RX7, yX7_tellOne, cX7_tellOne, 5, none)
set_option maxRecDepth 100000 in
theorem mtX7_tellOne : zm_Mv mX7_tellOne 4 := ⟨⟨rfl, (zm_in 420 rfl rfl), (zm_in 79 rfl rfl), by decide +kernel, by decide +kernel, by decide +kernel, by decide +kernel⟩, (zm_in 419 rfl rfl), (zm_in 1 rfl rfl)⟩
def mX7_isRow : zm_M := (RX7, yX7_isRow, cX7_isRow, 4, (some .boolean))
set_option maxRecDepth 100000 in
theorem mtX7_isRow : zm_Mv mX7_isRow 1 := ⟨⟨rfl, (zm_in 612 rfl rfl), (zm_in 79 rfl rfl), by decide +kernel, by decide +kernel, by decide +kernel, by decide +kernel⟩, (zm_in 611 rfl rfl), (zm_in 19 rfl rfl)⟩
def mX7_needsOf : zm_M := (RX7, yX7_needsOf, cX7_needsOf, 3, (some .int))
set_option maxRecDepth 100000 in
theorem mtX7_needsOf : zm_Mv mX7_needsOf 2 := ⟨⟨rfl, (zm_in 505 rfl rfl), (zm_in 79 rfl rfl), by decide +kernel, by decide +kernel, by decide +kernel, by decide +kernel⟩, (zm_in 504 rfl rfl), (zm_in 11 rfl rfl)⟩
def mX7_findStates : zm_M := (RX7, yX7_findStates, cX7_findStates, 2, none)
set_option maxRecDepth 100000 in
theorem mtX7_findStates : zm_Mv mX7_findStates 0 := ⟨⟨rfl, (zm_in 669 rfl rfl), (zm_in 79 rfl rfl), by decide +kernel, by decide +kernel, by decide +kernel, by decide +kernel⟩, (zm_in 668 rfl rfl), (zm_in 21 rfl rfl)⟩
def mX7_stateOf : zm_M := (RX7, yX7_stateOf, cX7_stateOf, 6, (some .int))
set_option maxRecDepth 100000 in
theorem mtX7_stateOf : zm_Mv mX7_stateOf 1 := ⟨⟨rfl, (zm_in 689 rfl rfl), (zm_in 79 rfl rfl), by decide +kernel, by decide +kernel, by decide +kernel, by decide +kernel⟩, (zm_in 688 rfl rfl), (zm_in 23 rfl rfl)⟩
def mX7_statesWithErrors : zm_M := (RX7, yX7_statesWithErrors, cX7_statesWithErrors, 5, (some .int))
set_option maxRecDepth 100000 in
theorem mtX7_statesWithErrors : zm_Mv mX7_statesWithErrors 2 := ⟨⟨rfl, (zm_in 693 rfl rfl), (zm_in 79 rfl rfl), by decide +kernel, by decide +kernel, by decide +kernel, by decide +kernel⟩, (zm_in 692 rfl rfl), (zm_in 24 rfl rfl)⟩
def mX7_lowestTerm : zm_M := (RX7, yX7_lowestTerm, cX7_lowestTerm, 9, (some .long))
set_option maxRecDepth 100000 in
theorem mtX7_lowestTerm : zm_Ms mX7_lowestTerm 3 := ⟨⟨rfl, (zm_in 638 rfl rfl), (zm_in 79 rfl rfl), by decide +kernel, by decide +kernel, by decide +kernel, by decide +kernel⟩, (zm_in 637 rfl rfl)⟩
def mX7_commonDivisor : zm_M := (RX7, yX7_commonDivisor, cX7_commonDivisor, 11, (some .long))
set_option maxRecDepth 100000 in
theorem mtX7_commonDivisor : zm_Ms mX7_commonDivisor 2 := ⟨⟨rfl, (zm_in 641 rfl rfl), (zm_in 79 rfl rfl), by decide +kernel, by decide +kernel, by decide +kernel, by decide +kernel⟩, (zm_in 640 rfl rfl)⟩
def mX8_in : zm_M := (RX8, yX8_in, cX8_in, 6, (some .boolean))
set_option maxRecDepth 100000 in
theorem mtX8_in : zm_Ms mX8_in 3 := ⟨⟨rfl, (zm_in 1001 rfl rfl), (zm_in 87 rfl rfl), by decide +kernel, by decide +kernel, by decide +kernel, by decide +kernel⟩, (zm_in 1000 rfl rfl)⟩
def mX8_no : zm_M := (RX8, yX8_no, cX8_no, 1, (some .long))
set_option maxRecDepth 100000 in
theorem mtX8_no : zm_Ms mX8_no 1 := ⟨⟨rfl, (zm_in 1213 rfl rfl), (zm_in 87 rfl rfl), by decide +kernel, by decide +kernel, by decide +kernel, by decide +kernel⟩, (zm_in 1212 rfl rfl)⟩
def mX8_isTwo : zm_M := (RX8, yX8_isTwo, cX8_isTwo, 1, (some .boolean))
set_option maxRecDepth 100000 in
theorem mtX8_isTwo : zm_Ms mX8_isTwo 1 := ⟨⟨rfl, (zm_in 1122 rfl rfl), (zm_in 87 rfl rfl), by decide +kernel, by decide +kernel, by decide +kernel, by decide +kernel⟩, (zm_in 1121 rfl rfl)⟩
def mX8_isIn : zm_M := (RX8, yX8_isIn, cX8_isIn, 2, (some .boolean))
set_option maxRecDepth 100000 in
theorem mtX8_isIn : zm_Ms mX8_isIn 2 := ⟨⟨rfl, (zm_in 1107 rfl rfl), (zm_in 87 rfl rfl), by decide +kernel, by decide +kernel, by decide +kernel, by decide +kernel⟩, (zm_in 1106 rfl rfl)⟩
def mX8_ones : zm_M := (RX8, yX8_ones, cX8_ones, 3, (some .int))
set_option maxRecDepth 100000 in
theorem mtX8_ones : zm_Ms mX8_ones 1 := ⟨⟨rfl, (zm_in 1150 rfl rfl), (zm_in 87 rfl rfl), by decide +kernel, by decide +kernel, by decide +kernel, by decide +kernel⟩, (zm_in 1149 rfl rfl)⟩
def mX8_met : zm_M := (RX8, yX8_met, cX8_met, 2, (some .int))
set_option maxRecDepth 100000 in
theorem mtX8_met : zm_Mv mX8_met 1 := ⟨⟨rfl, (zm_in 1006 rfl rfl), (zm_in 87 rfl rfl), by decide +kernel, by decide +kernel, by decide +kernel, by decide +kernel⟩, (zm_in 1005 rfl rfl), (zm_in 33 rfl rfl)⟩
def mX8_isSheet : zm_M := (RX8, yX8_isSheet, cX8_isSheet, 1, (some .boolean))
set_option maxRecDepth 100000 in
theorem mtX8_isSheet : zm_Ms mX8_isSheet 1 := ⟨⟨rfl, (zm_in 997 rfl rfl), (zm_in 87 rfl rfl), by decide +kernel, by decide +kernel, by decide +kernel, by decide +kernel⟩, (zm_in 996 rfl rfl)⟩
def mX8_sheet : zm_M := (RX8, yX8_sheet, cX8_sheet, 5, (some .int))
set_option maxRecDepth 100000 in
theorem mtX8_sheet : zm_Mv mX8_sheet 3 := ⟨⟨rfl, (zm_in 994 rfl rfl), (zm_in 87 rfl rfl), by decide +kernel, by decide +kernel, by decide +kernel, by decide +kernel⟩, (zm_in 992 rfl rfl), (zm_in 993 rfl rfl)⟩
def mX8_lose : zm_M := (RX8, yX8_lose, cX8_lose, 2, (some .int))
set_option maxRecDepth 100000 in
theorem mtX8_lose : zm_Mv mX8_lose 1 := ⟨⟨rfl, (zm_in 1010 rfl rfl), (zm_in 87 rfl rfl), by decide +kernel, by decide +kernel, by decide +kernel, by decide +kernel⟩, (zm_in 1008 rfl rfl), (zm_in 1009 rfl rfl)⟩
def mX8_lacks : zm_M := (RX8, yX8_lacks, cX8_lacks, 4, (some .int))
set_option maxRecDepth 100000 in
theorem mtX8_lacks : zm_Mv mX8_lacks 3 := ⟨⟨rfl, (zm_in 1018 rfl rfl), (zm_in 87 rfl rfl), by decide +kernel, by decide +kernel, by decide +kernel, by decide +kernel⟩, (zm_in 1017 rfl rfl), (zm_in 34 rfl rfl)⟩
def mX8_cut : zm_M := (RX8, yX8_cut, cX8_cut, 2, (some .int))
set_option maxRecDepth 100000 in
theorem mtX8_cut : zm_Ms mX8_cut 2 := ⟨⟨rfl, (zm_in 1021 rfl rfl), (zm_in 87 rfl rfl), by decide +kernel, by decide +kernel, by decide +kernel, by decide +kernel⟩, (zm_in 1020 rfl rfl)⟩
def mX8_lay : zm_M := (RX8, yX8_lay, cX8_lay, 6, (some .int))
set_option maxRecDepth 100000 in
theorem mtX8_lay : zm_Mv mX8_lay 4 := ⟨⟨rfl, (zm_in 1014 rfl rfl), (zm_in 87 rfl rfl), by decide +kernel, by decide +kernel, by decide +kernel, by decide +kernel⟩, (zm_in 1012 rfl rfl), (zm_in 1013 rfl rfl)⟩
def mX8_get : zm_M := (RX8, yX8_get, cX8_get, 4, (some .int))
set_option maxRecDepth 100000 in
theorem mtX8_get : zm_Mv mX8_get 3 := ⟨⟨rfl, (zm_in 1025 rfl rfl), (zm_in 87 rfl rfl), by decide +kernel, by decide +kernel, by decide +kernel, by decide +kernel⟩, (zm_in 1023 rfl rfl), (zm_in 1024 rfl rfl)⟩
def mX8_copy : zm_M := (RX8, yX8_copy, cX8_copy, 7, (some .int))
set_option maxRecDepth 100000 in
theorem mtX8_copy : zm_Mv mX8_copy 5 := ⟨⟨rfl, (zm_in 1030 rfl rfl), (zm_in 87 rfl rfl), by decide +kernel, by decide +kernel, by decide +kernel, by decide +kernel⟩, (zm_in 1028 rfl rfl), (zm_in 1029 rfl rfl)⟩
def mX8_isPupil : zm_M := (RX8, yX8_isPupil, cX8_isPupil, 1, (some .boolean))
set_option maxRecDepth 100000 in
theorem mtX8_isPupil : zm_Ms mX8_isPupil 1 := ⟨⟨rfl, (zm_in 1044 rfl rfl), (zm_in 87 rfl rfl), by decide +kernel, by decide +kernel, by decide +kernel, by decide +kernel⟩, (zm_in 1043 rfl rfl)⟩
def mX8_isAny : zm_M := (RX8, yX8_isAny, cX8_isAny, 1, (some .boolean))
set_option maxRecDepth 100000 in
theorem mtX8_isAny : zm_Ms mX8_isAny 1 := ⟨⟨rfl, (zm_in 1048 rfl rfl), (zm_in 87 rfl rfl), by decide +kernel, by decide +kernel, by decide +kernel, by decide +kernel⟩, (zm_in 1047 rfl rfl)⟩
def mX8_n : zm_M := (RX8, yX8_n, cX8_n, 1, (some .int))
set_option maxRecDepth 100000 in
theorem mtX8_n : zm_Mv mX8_n 0 := ⟨⟨rfl, (zm_in 1119 rfl rfl), (zm_in 87 rfl rfl), by decide +kernel, by decide +kernel, by decide +kernel, by decide +kernel⟩, (zm_in 1118 rfl rfl), (zm_in 44 rfl rfl)⟩
def mX8_isQuestion : zm_M := (RX8, yX8_isQuestion, cX8_isQuestion, 2, (some .boolean))
set_option maxRecDepth 100000 in
theorem mtX8_isQuestion : zm_Mv mX8_isQuestion 1 := ⟨⟨rfl, (zm_in 1115 rfl rfl), (zm_in 87 rfl rfl), by decide +kernel, by decide +kernel, by decide +kernel, by decide +kernel⟩, (zm_in 1114 rfl rfl), (zm_in 43 rfl rfl)⟩
def mX8_whole : zm_M := (RX8, yX8_whole, cX8_whole, 1, (some .int))
set_option maxRecDepth 100000 in
theorem mtX8_whole : zm_Mv mX8_whole 0 := ⟨⟨rfl, (zm_in 1198 rfl rfl), (zm_in 87 rfl rfl), by decide +kernel, by decide +kernel, by decide +kernel, by decide +kernel⟩, (zm_in 1197 rfl rfl), (zm_in 57 rfl rfl)⟩
def mX8_high : zm_M := (RX8, yX8_high, cX8_high, 1, (some .int))
set_option maxRecDepth 100000 in
theorem mtX8_high : zm_Ms mX8_high 1 := ⟨⟨rfl, (zm_in 1037 rfl rfl), (zm_in 87 rfl rfl), by decide +kernel, by decide +kernel, by decide +kernel, by decide +kernel⟩, (zm_in 1036 rfl rfl)⟩
def mX8_set : zm_M := (RX8, yX8_set, cX8_set, 4, (some .int))
set_option maxRecDepth 100000 in
theorem mtX8_set : zm_Mv mX8_set 2 := ⟨⟨rfl, (zm_in 1034 rfl rfl), (zm_in 87 rfl rfl), by decide +kernel, by decide +kernel, by decide +kernel, by decide +kernel⟩, (zm_in 1032 rfl rfl), (zm_in 1033 rfl rfl)⟩
def mX8_isLate : zm_M := (RX8, yX8_isLate, cX8_isLate, 2, (some .boolean))
set_option maxRecDepth 100000 in
theorem mtX8_isLate : zm_Mv mX8_isLate 1 := ⟨⟨rfl, (zm_in 1053 rfl rfl), (zm_in 87 rfl rfl), by decide +kernel, by decide +kernel, by decide +kernel, by decide +kernel⟩, (zm_in 1052 rfl rfl), (zm_in 35 rfl rfl)⟩
def mX8_answer : zm_M := (RX8, yX8_answer, cX8_answer, 5, (some .int))
set_option maxRecDepth 100000 in
theorem mtX8_answer : zm_Mv mX8_answer 4 := ⟨⟨rfl, (zm_in 1041 rfl rfl), (zm_in 87 rfl rfl), by decide +kernel, by decide +kernel, by decide +kernel, by decide +kernel⟩, (zm_in 1039 rfl rfl), (zm_in 1040 rfl rfl)⟩
def mX8_read : zm_M := (RX8, yX8_read, cX8_read, 5, (some .int))
set_option maxRecDepth 100000 in
theorem mtX8_read : zm_Mv mX8_read 3 := ⟨⟨rfl, (zm_in 1058 rfl rfl), (zm_in 87 rfl rfl), by decide +kernel, by decide +kernel, by decide +kernel, by decide +kernel⟩, (zm_in 1056 rfl rfl), (zm_in 1057 rfl rfl)⟩
def mX8_findSays : zm_M := (RX8, yX8_findSays, cX8_findSays, 3, none)
set_option maxRecDepth 100000 in
theorem mtX8_findSays : zm_Mv mX8_findSays 0 := ⟨⟨rfl, (zm_in 1067 rfl rfl), (zm_in 87 rfl rfl), by decide +kernel, by decide +kernel, by decide +kernel, by decide +kernel⟩, (zm_in 1066 rfl rfl), (zm_in 36 rfl rfl)⟩
def mX8_said : zm_M := (RX8, yX8_said, cX8_said, 3, (some .int))
set_option maxRecDepth 100000 in
theorem mtX8_said : zm_Mv mX8_said 2 := ⟨⟨rfl, (zm_in 1063 rfl rfl), (zm_in 87 rfl rfl), by decide +kernel, by decide +kernel, by decide +kernel, by decide +kernel⟩, (zm_in 1061 rfl rfl), (zm_in 1062 rfl rfl)⟩
def mX8_bits : zm_M := (RX8, yX8_bits, cX8_bits, 5, (some .int))
set_option maxRecDepth 100000 in
theorem mtX8_bits : zm_Mv mX8_bits 2 := ⟨⟨rfl, (zm_in 1147 rfl rfl), (zm_in 87 rfl rfl), by decide +kernel, by decide +kernel, by decide +kernel, by decide +kernel⟩, (zm_in 1146 rfl rfl), (zm_in 49 rfl rfl)⟩
def mX8_type : zm_M := (RX8, yX8_type, cX8_type, 2, (some .int))
set_option maxRecDepth 100000 in
theorem mtX8_type : zm_Mv mX8_type 1 := ⟨⟨rfl, (zm_in 1071 rfl rfl), (zm_in 87 rfl rfl), by decide +kernel, by decide +kernel, by decide +kernel, by decide +kernel⟩, (zm_in 1069 rfl rfl), (zm_in 1070 rfl rfl)⟩
def mX8_wipe : zm_M := (RX8, yX8_wipe, cX8_wipe, 2, (some .int))
set_option maxRecDepth 100000 in
theorem mtX8_wipe : zm_Mv mX8_wipe 0 := ⟨⟨rfl, (zm_in 1076 rfl rfl), (zm_in 87 rfl rfl), by decide +kernel, by decide +kernel, by decide +kernel, by decide +kernel⟩, (zm_in 1074 rfl rfl), (zm_in 1075 rfl rfl)⟩
def mX8_here : zm_M := (RX8, yX8_here, cX8_here, 1, (some .int))
set_option maxRecDepth 100000 in
theorem mtX8_here : zm_Mv mX8_here 0 := ⟨⟨rfl, (zm_in 1096 rfl rfl), (zm_in 87 rfl rfl), by decide +kernel, by decide +kernel, by decide +kernel, by decide +kernel⟩, (zm_in 1095 rfl rfl), (zm_in 40 rfl rfl)⟩
def mX8_clears : zm_M := (RX8, yX8_clears, cX8_clears, 2, none)
set_option maxRecDepth 100000 in
theorem mtX8_clears : zm_Mv mX8_clears 0 := ⟨⟨rfl, (zm_in 1088 rfl rfl), (zm_in 87 rfl rfl), by decide +kernel, by decide +kernel, by decide +kernel, by decide +kernel⟩, (zm_in 1087 rfl rfl), (zm_in 38 rfl rfl)⟩
def mX8_takes : zm_M := (RX8, yX8_takes, cX8_takes, 2, (some .boolean))
set_option maxRecDepth 100000 in
theorem mtX8_takes : zm_Mv mX8_takes 1 := ⟨⟨rfl, (zm_in 1100 rfl rfl), (zm_in 87 rfl rfl), by decide +kernel, by decide +kernel, by decide +kernel, by decide +kernel⟩, (zm_in 1099 rfl rfl), (zm_in 41 rfl rfl)⟩
def mX8_ahead : zm_M := (RX8, yX8_ahead, cX8_ahead, 5, (some .int))
set_option maxRecDepth 100000 in
theorem mtX8_ahead : zm_Mv mX8_ahead 1 := ⟨⟨rfl, (zm_in 1104 rfl rfl), (zm_in 87 rfl rfl), by decide +kernel, by decide +kernel, by decide +kernel, by decide +kernel⟩, (zm_in 1103 rfl rfl), (zm_in 42 rfl rfl)⟩
def mX8_readsPart : zm_M := (RX8, yX8_readsPart, cX8_readsPart, 3, (some .boolean))
set_option maxRecDepth 100000 in
theorem mtX8_readsPart : zm_Mv mX8_readsPart 0 := ⟨⟨rfl, (zm_in 1092 rfl rfl), (zm_in 87 rfl rfl), by decide +kernel, by decide +kernel, by decide +kernel, by decide +kernel⟩, (zm_in 1091 rfl rfl), (zm_in 39 rfl rfl)⟩
def mX8_reads : zm_M := (RX8, yX8_reads, cX8_reads, 2, (some .int))
set_option maxRecDepth 100000 in
theorem mtX8_reads : zm_Mv mX8_reads 0 := ⟨⟨rfl, (zm_in 1084 rfl rfl), (zm_in 87 rfl rfl), by decide +kernel, by decide +kernel, by decide +kernel, by decide +kernel⟩, (zm_in 1083 rfl rfl), (zm_in 37 rfl rfl)⟩
def mX8_fault : zm_M := (RX8, yX8_fault, cX8_fault, 1, (some .int))
set_option maxRecDepth 100000 in
theorem mtX8_fault : zm_Mv mX8_fault 0 := ⟨⟨rfl, (zm_in 1080 rfl rfl), (zm_in 87 rfl rfl), by decide +kernel, by decide +kernel, by decide +kernel, by decide +kernel⟩, (zm_in 1078 rfl rfl), (zm_in 1079 rfl rfl)⟩
def mX8_isFound : zm_M := (RX8, yX8_isFound, cX8_isFound, 8, (some .boolean))
set_option maxRecDepth 100000 in
theorem mtX8_isFound : zm_Mv mX8_isFound 2 := ⟨⟨rfl, (zm_in 1134 rfl rfl), (zm_in 87 rfl rfl), by decide +kernel, by decide +kernel, by decide +kernel, by decide +kernel⟩, (zm_in 1133 rfl rfl), (zm_in 47 rfl rfl)⟩
def mX8_isNeeded : zm_M := (RX8, yX8_isNeeded, cX8_isNeeded, 4, (some .boolean))
set_option maxRecDepth 100000 in
theorem mtX8_isNeeded : zm_Mv mX8_isNeeded 3 := ⟨⟨rfl, (zm_in 1130 rfl rfl), (zm_in 87 rfl rfl), by decide +kernel, by decide +kernel, by decide +kernel, by decide +kernel⟩, (zm_in 1129 rfl rfl), (zm_in 46 rfl rfl)⟩
def mX8_find : zm_M := (RX8, yX8_find, cX8_find, 1, none)
set_option maxRecDepth 100000 in
theorem mtX8_find : zm_Mv mX8_find 0 := ⟨⟨rfl, (zm_in 1126 rfl rfl), (zm_in 87 rfl rfl), by decide +kernel, by decide +kernel, by decide +kernel, by decide +kernel⟩, (zm_in 1125 rfl rfl), (zm_in 45 rfl rfl)⟩
def mX8_needed : zm_M := (RX8, yX8_needed, cX8_needed, 4, (some .int))
set_option maxRecDepth 100000 in
theorem mtX8_needed : zm_Mv mX8_needed 3 := ⟨⟨rfl, (zm_in 1111 rfl rfl), (zm_in 87 rfl rfl), by decide +kernel, by decide +kernel, by decide +kernel, by decide +kernel⟩, (zm_in 1109 rfl rfl), (zm_in 1110 rfl rfl)⟩
def mX8_findNeeds : zm_M := (RX8, yX8_findNeeds, cX8_findNeeds, 3, none)
set_option maxRecDepth 100000 in
theorem mtX8_findNeeds : zm_Mv mX8_findNeeds 0 := ⟨⟨rfl, (zm_in 1257 rfl rfl), (zm_in 87 rfl rfl), by decide +kernel, by decide +kernel, by decide +kernel, by decide +kernel⟩, (zm_in 1256 rfl rfl), (zm_in 65 rfl rfl)⟩
def mX8_isState : zm_M := (RX8, yX8_isState, cX8_isState, 4, (some .boolean))
set_option maxRecDepth 100000 in
theorem mtX8_isState : zm_Mv mX8_isState 1 := ⟨⟨rfl, (zm_in 1261 rfl rfl), (zm_in 87 rfl rfl), by decide +kernel, by decide +kernel, by decide +kernel, by decide +kernel⟩, (zm_in 1260 rfl rfl), (zm_in 66 rfl rfl)⟩
def mX8_errorsOf : zm_M := (RX8, yX8_errorsOf, cX8_errorsOf, 3, (some .int))
set_option maxRecDepth 100000 in
theorem mtX8_errorsOf : zm_Mv mX8_errorsOf 2 := ⟨⟨rfl, (zm_in 1143 rfl rfl), (zm_in 87 rfl rfl), by decide +kernel, by decide +kernel, by decide +kernel, by decide +kernel⟩, (zm_in 1142 rfl rfl), (zm_in 48 rfl rfl)⟩
def mX8_errors : zm_M := (RX8, yX8_errors, cX8_errors, 3, (some .int))
set_option maxRecDepth 100000 in
theorem mtX8_errors : zm_Mv mX8_errors 2 := ⟨⟨rfl, (zm_in 1138 rfl rfl), (zm_in 87 rfl rfl), by decide +kernel, by decide +kernel, by decide +kernel, by decide +kernel⟩, (zm_in 1136 rfl rfl), (zm_in 1137 rfl rfl)⟩
def mX8_findWrong : zm_M := (RX8, yX8_findWrong, cX8_findWrong, 7, none)
set_option maxRecDepth 100000 in
theorem mtX8_findWrong : zm_Mv mX8_findWrong 2 := ⟨⟨rfl, (zm_in 1166 rfl rfl), (zm_in 87 rfl rfl), by decide +kernel, by decide +kernel, by decide +kernel, by decide +kernel⟩, (zm_in 1165 rfl rfl), (zm_in 52 rfl rfl)⟩
def mX8_offNow : zm_M := (RX8, yX8_offNow, cX8_offNow, 8, (some .int))
set_option maxRecDepth 100000 in
theorem mtX8_offNow : zm_Mv mX8_offNow 1 := ⟨⟨rfl, (zm_in 1170 rfl rfl), (zm_in 87 rfl rfl), by decide +kernel, by decide +kernel, by decide +kernel, by decide +kernel⟩, (zm_in 1169 rfl rfl), (zm_in 53 rfl rfl)⟩
def mX8_goesOn : zm_M := (RX8, yX8_goesOn, cX8_goesOn, 6, (some .boolean))
set_option maxRecDepth 100000 in
theorem mtX8_goesOn : zm_Mv mX8_goesOn 1 := ⟨⟨rfl, (zm_in 1174 rfl rfl), (zm_in 87 rfl rfl), by decide +kernel, by decide +kernel, by decide +kernel, by decide +kernel⟩, (zm_in 1173 rfl rfl), (zm_in 54 rfl rfl)⟩
def mX8_swaps : zm_M := (RX8, yX8_swaps, cX8_swaps, 4, none)
set_option maxRecDepth 100000 in
theorem mtX8_swaps : zm_Mv mX8_swaps 2 := ⟨⟨rfl, (zm_in 1178 rfl rfl), (zm_in 87 rfl rfl), by decide +kernel, by decide +kernel, by decide +kernel, by decide +kernel⟩, (zm_in 1177 rfl rfl), (zm_in 55 rfl rfl)⟩
def mX8_findOrder : zm_M := (RX8, yX8_findOrder, cX8_findOrder, 7, none)
set_option maxRecDepth 100000 in
theorem mtX8_findOrder : zm_Mv mX8_findOrder 2 := ⟨⟨rfl, (zm_in 1162 rfl rfl), (zm_in 87 rfl rfl), by decide +kernel, by decide +kernel, by decide +kernel, by decide +kernel⟩, (zm_in 1161 rfl rfl), (zm_in 51 rfl rfl)⟩
def mX8_findBest : zm_M := (RX8, yX8_findBest, cX8_findBest, 1, none)
set_option maxRecDepth 100000 in
theorem mtX8_findBest : zm_Mv mX8_findBest 0 := ⟨⟨rfl, (zm_in 1158 rfl rfl), (zm_in 87 rfl rfl), by decide +kernel, by decide +kernel, by decide +kernel, by decide +kernel⟩, (zm_in 1157 rfl rfl), (zm_in 50 rfl rfl)⟩
def mX8_off : zm_M := (RX8, yX8_off, cX8_off, 2, (some .int))
set_option maxRecDepth 100000 in
theorem mtX8_off : zm_Mv mX8_off 1 := ⟨⟨rfl, (zm_in 1154 rfl rfl), (zm_in 87 rfl rfl), by decide +kernel, by decide +kernel, by decide +kernel, by decide +kernel⟩, (zm_in 1152 rfl rfl), (zm_in 1153 rfl rfl)⟩
def mX8_row : zm_M := (RX8, yX8_row, cX8_row, 2, (some .int))
set_option maxRecDepth 100000 in
theorem mtX8_row : zm_Mv mX8_row 1 := ⟨⟨rfl, (zm_in 1182 rfl rfl), (zm_in 87 rfl rfl), by decide +kernel, by decide +kernel, by decide +kernel, by decide +kernel⟩, (zm_in 1180 rfl rfl), (zm_in 1181 rfl rfl)⟩
def mX8_stepOf : zm_M := (RX8, yX8_stepOf, cX8_stepOf, 8, (some .int))
set_option maxRecDepth 100000 in
theorem mtX8_stepOf : zm_Mv mX8_stepOf 2 := ⟨⟨rfl, (zm_in 1190 rfl rfl), (zm_in 87 rfl rfl), by decide +kernel, by decide +kernel, by decide +kernel, by decide +kernel⟩, (zm_in 1189 rfl rfl), (zm_in 56 rfl rfl)⟩
def mX8_step : zm_M := (RX8, yX8_step, cX8_step, 3, (some .int))
set_option maxRecDepth 100000 in
theorem mtX8_step : zm_Mv mX8_step 2 := ⟨⟨rfl, (zm_in 1186 rfl rfl), (zm_in 87 rfl rfl), by decide +kernel, by decide +kernel, by decide +kernel, by decide +kernel⟩, (zm_in 1184 rfl rfl), (zm_in 1185 rfl rfl)⟩
def mX8_offBy : zm_M := (RX8, yX8_offBy, cX8_offBy, 4, (some .int))
set_option maxRecDepth 100000 in
theorem mtX8_offBy : zm_Mv mX8_offBy 1 := ⟨⟨rfl, (zm_in 1194 rfl rfl), (zm_in 87 rfl rfl), by decide +kernel, by decide +kernel, by decide +kernel, by decide +kernel⟩, (zm_in 1192 rfl rfl), (zm_in 1193 rfl rfl)⟩
def mX8_allAnswers : zm_M := (RX8, yX8_allAnswers, cX8_allAnswers, 4, (some .int))
set_option maxRecDepth 100000 in
theorem mtX8_allAnswers : zm_Mv mX8_allAnswers 1 := ⟨⟨rfl, (zm_in 1210 rfl rfl), (zm_in 87 rfl rfl), by decide +kernel, by decide +kernel, by decide +kernel, by decide +kernel⟩, (zm_in 1209 rfl rfl), (zm_in 59 rfl rfl)⟩
def mX8_shares : zm_M := (RX8, yX8_shares, cX8_shares, 6, (some .int))
set_option maxRecDepth 100000 in
theorem mtX8_shares : zm_Mv mX8_shares 0 := ⟨⟨rfl, (zm_in 1218 rfl rfl), (zm_in 87 rfl rfl), by decide +kernel, by decide +kernel, by decide +kernel, by decide +kernel⟩, (zm_in 1217 rfl rfl), (zm_in 60 rfl rfl)⟩
def mX8_part : zm_M := (RX8, yX8_part, cX8_part, 11, (some .long))
set_option maxRecDepth 100000 in
theorem mtX8_part : zm_Ms mX8_part 3 := ⟨⟨rfl, (zm_in 1221 rfl rfl), (zm_in 87 rfl rfl), by decide +kernel, by decide +kernel, by decide +kernel, by decide +kernel⟩, (zm_in 1220 rfl rfl)⟩
def mX8_fitOf : zm_M := (RX8, yX8_fitOf, cX8_fitOf, 4, (some .long))
set_option maxRecDepth 100000 in
theorem mtX8_fitOf : zm_Mv mX8_fitOf 2 := ⟨⟨rfl, (zm_in 1206 rfl rfl), (zm_in 87 rfl rfl), by decide +kernel, by decide +kernel, by decide +kernel, by decide +kernel⟩, (zm_in 1205 rfl rfl), (zm_in 58 rfl rfl)⟩
def mX8_fit : zm_M := (RX8, yX8_fit, cX8_fit, 3, (some .long))
set_option maxRecDepth 100000 in
theorem mtX8_fit : zm_Mv mX8_fit 2 := ⟨⟨rfl, (zm_in 1202 rfl rfl), (zm_in 87 rfl rfl), by decide +kernel, by decide +kernel, by decide +kernel, by decide +kernel⟩, (zm_in 1200 rfl rfl), (zm_in 1201 rfl rfl)⟩
def mX8_oddNow : zm_M := (RX8, yX8_oddNow, cX8_oddNow, 5, (some .int))
set_option maxRecDepth 100000 in
theorem mtX8_oddNow : zm_Mv mX8_oddNow 0 := ⟨⟨rfl, (zm_in 1229 rfl rfl), (zm_in 87 rfl rfl), by decide +kernel, by decide +kernel, by decide +kernel, by decide +kernel⟩, (zm_in 1228 rfl rfl), (zm_in 61 rfl rfl)⟩
def mX8_odd : zm_M := (RX8, yX8_odd, cX8_odd, 1, (some .int))
set_option maxRecDepth 100000 in
theorem mtX8_odd : zm_Mv mX8_odd 0 := ⟨⟨rfl, (zm_in 1225 rfl rfl), (zm_in 87 rfl rfl), by decide +kernel, by decide +kernel, by decide +kernel, by decide +kernel⟩, (zm_in 1223 rfl rfl), (zm_in 1224 rfl rfl)⟩
def mX8_withoutOf : zm_M := (RX8, yX8_withoutOf, cX8_withoutOf, 3, (some .int))
set_option maxRecDepth 100000 in
theorem mtX8_withoutOf : zm_Mv mX8_withoutOf 2 := ⟨⟨rfl, (zm_in 1237 rfl rfl), (zm_in 87 rfl rfl), by decide +kernel, by decide +kernel, by decide +kernel, by decide +kernel⟩, (zm_in 1236 rfl rfl), (zm_in 62 rfl rfl)⟩
def mX8_without : zm_M := (RX8, yX8_without, cX8_without, 3, (some .int))
set_option maxRecDepth 100000 in
theorem mtX8_without : zm_Mv mX8_without 2 := ⟨⟨rfl, (zm_in 1233 rfl rfl), (zm_in 87 rfl rfl), by decide +kernel, by decide +kernel, by decide +kernel, by decide +kernel⟩, (zm_in 1231 rfl rfl), (zm_in 1232 rfl rfl)⟩
def mX8_worstOf : zm_M := (RX8, yX8_worstOf, cX8_worstOf, 6, (some .int))
set_option maxRecDepth 100000 in
theorem mtX8_worstOf : zm_Mv mX8_worstOf 1 := ⟨⟨rfl, (zm_in 1245 rfl rfl), (zm_in 87 rfl rfl), by decide +kernel, by decide +kernel, by decide +kernel, by decide +kernel⟩, (zm_in 1244 rfl rfl), (zm_in 63 rfl rfl)⟩
def mX8_worst : zm_M := (RX8, yX8_worst, cX8_worst, 2, (some .int))
set_option maxRecDepth 100000 in
theorem mtX8_worst : zm_Mv mX8_worst 1 := ⟨⟨rfl, (zm_in 1241 rfl rfl), (zm_in 87 rfl rfl), by decide +kernel, by decide +kernel, by decide +kernel, by decide +kernel⟩, (zm_in 1239 rfl rfl), (zm_in 1240 rfl rfl)⟩
def mX8_statesOf : zm_M := (RX8, yX8_statesOf, cX8_statesOf, 4, (some .int))
set_option maxRecDepth 100000 in
theorem mtX8_statesOf : zm_Mv mX8_statesOf 1 := ⟨⟨rfl, (zm_in 1253 rfl rfl), (zm_in 87 rfl rfl), by decide +kernel, by decide +kernel, by decide +kernel, by decide +kernel⟩, (zm_in 1252 rfl rfl), (zm_in 64 rfl rfl)⟩
def mX8_states : zm_M := (RX8, yX8_states, cX8_states, 2, (some .int))
set_option maxRecDepth 100000 in
theorem mtX8_states : zm_Mv mX8_states 1 := ⟨⟨rfl, (zm_in 1249 rfl rfl), (zm_in 87 rfl rfl), by decide +kernel, by decide +kernel, by decide +kernel, by decide +kernel⟩, (zm_in 1247 rfl rfl), (zm_in 1248 rfl rfl)⟩
def mX8_belongsOf : zm_M := (RX8, yX8_belongsOf, cX8_belongsOf, 8, (some .int))
set_option maxRecDepth 100000 in
theorem mtX8_belongsOf : zm_Mv mX8_belongsOf 2 := ⟨⟨rfl, (zm_in 1269 rfl rfl), (zm_in 87 rfl rfl), by decide +kernel, by decide +kernel, by decide +kernel, by decide +kernel⟩, (zm_in 1268 rfl rfl), (zm_in 67 rfl rfl)⟩
def mX8_belongs : zm_M := (RX8, yX8_belongs, cX8_belongs, 3, (some .int))
set_option maxRecDepth 100000 in
theorem mtX8_belongs : zm_Mv mX8_belongs 2 := ⟨⟨rfl, (zm_in 1265 rfl rfl), (zm_in 87 rfl rfl), by decide +kernel, by decide +kernel, by decide +kernel, by decide +kernel⟩, (zm_in 1263 rfl rfl), (zm_in 1264 rfl rfl)⟩
def mX8_next : zm_M := (RX8, yX8_next, cX8_next, 7, (some .int))
set_option maxRecDepth 100000 in
theorem mtX8_next : zm_Mv mX8_next 2 := ⟨⟨rfl, (zm_in 1273 rfl rfl), (zm_in 87 rfl rfl), by decide +kernel, by decide +kernel, by decide +kernel, by decide +kernel⟩, (zm_in 1271 rfl rfl), (zm_in 1272 rfl rfl)⟩
def mX8_pathsNow : zm_M := (RX8, yX8_pathsNow, cX8_pathsNow, 3, (some .int))
set_option maxRecDepth 100000 in
theorem mtX8_pathsNow : zm_Mv mX8_pathsNow 0 := ⟨⟨rfl, (zm_in 1281 rfl rfl), (zm_in 87 rfl rfl), by decide +kernel, by decide +kernel, by decide +kernel, by decide +kernel⟩, (zm_in 1280 rfl rfl), (zm_in 68 rfl rfl)⟩
def mX8_paths : zm_M := (RX8, yX8_paths, cX8_paths, 1, (some .int))
set_option maxRecDepth 100000 in
theorem mtX8_paths : zm_Mv mX8_paths 0 := ⟨⟨rfl, (zm_in 1277 rfl rfl), (zm_in 87 rfl rfl), by decide +kernel, by decide +kernel, by decide +kernel, by decide +kernel⟩, (zm_in 1275 rfl rfl), (zm_in 1276 rfl rfl)⟩
def mX8_deepOf : zm_M := (RX8, yX8_deepOf, cX8_deepOf, 4, (some .int))
set_option maxRecDepth 100000 in
theorem mtX8_deepOf : zm_Mv mX8_deepOf 1 := ⟨⟨rfl, (zm_in 1289 rfl rfl), (zm_in 87 rfl rfl), by decide +kernel, by decide +kernel, by decide +kernel, by decide +kernel⟩, (zm_in 1288 rfl rfl), (zm_in 69 rfl rfl)⟩
def mX8_deep : zm_M := (RX8, yX8_deep, cX8_deep, 2, (some .int))
set_option maxRecDepth 100000 in
theorem mtX8_deep : zm_Mv mX8_deep 1 := ⟨⟨rfl, (zm_in 1285 rfl rfl), (zm_in 87 rfl rfl), by decide +kernel, by decide +kernel, by decide +kernel, by decide +kernel⟩, (zm_in 1283 rfl rfl), (zm_in 1284 rfl rfl)⟩
def mX8_byAsking : zm_M := (RX8, yX8_byAsking, cX8_byAsking, 5, (some .int))
set_option maxRecDepth 100000 in
theorem mtX8_byAsking : zm_Mv mX8_byAsking 2 := ⟨⟨rfl, (zm_in 1301 rfl rfl), (zm_in 87 rfl rfl), by decide +kernel, by decide +kernel, by decide +kernel, by decide +kernel⟩, (zm_in 1300 rfl rfl), (zm_in 71 rfl rfl)⟩
def mX8_sureOf : zm_M := (RX8, yX8_sureOf, cX8_sureOf, 9, (some .int))
set_option maxRecDepth 100000 in
theorem mtX8_sureOf : zm_Mv mX8_sureOf 3 := ⟨⟨rfl, (zm_in 1297 rfl rfl), (zm_in 87 rfl rfl), by decide +kernel, by decide +kernel, by decide +kernel, by decide +kernel⟩, (zm_in 1296 rfl rfl), (zm_in 70 rfl rfl)⟩
def mX8_sure : zm_M := (RX8, yX8_sure, cX8_sure, 4, (some .int))
set_option maxRecDepth 100000 in
theorem mtX8_sure : zm_Mv mX8_sure 3 := ⟨⟨rfl, (zm_in 1293 rfl rfl), (zm_in 87 rfl rfl), by decide +kernel, by decide +kernel, by decide +kernel, by decide +kernel⟩, (zm_in 1291 rfl rfl), (zm_in 1292 rfl rfl)⟩
def mX8_chanceAbove : zm_M := (RX8, yX8_chanceAbove, cX8_chanceAbove, 10, (some .long))
set_option maxRecDepth 100000 in
theorem mtX8_chanceAbove : zm_Mv mX8_chanceAbove 4 := ⟨⟨rfl, (zm_in 1313 rfl rfl), (zm_in 87 rfl rfl), by decide +kernel, by decide +kernel, by decide +kernel, by decide +kernel⟩, (zm_in 1312 rfl rfl), (zm_in 72 rfl rfl)⟩
def mX8_areLots : zm_M := (RX8, yX8_areLots, cX8_areLots, 2, (some .boolean))
set_option maxRecDepth 100000 in
theorem mtX8_areLots : zm_Ms mX8_areLots 2 := ⟨⟨rfl, (zm_in 1308 rfl rfl), (zm_in 87 rfl rfl), by decide +kernel, by decide +kernel, by decide +kernel, by decide +kernel⟩, (zm_in 1307 rfl rfl)⟩
def mX8_chance : zm_M := (RX8, yX8_chance, cX8_chance, 9, (some .long))
set_option maxRecDepth 100000 in
theorem mtX8_chance : zm_Mv mX8_chance 5 := ⟨⟨rfl, (zm_in 1305 rfl rfl), (zm_in 87 rfl rfl), by decide +kernel, by decide +kernel, by decide +kernel, by decide +kernel⟩, (zm_in 1303 rfl rfl), (zm_in 1304 rfl rfl)⟩
def mX8_share : zm_M := (RX8, yX8_share, cX8_share, 10, (some .long))
set_option maxRecDepth 100000 in
theorem mtX8_share : zm_Mv mX8_share 5 := ⟨⟨rfl, (zm_in 1317 rfl rfl), (zm_in 87 rfl rfl), by decide +kernel, by decide +kernel, by decide +kernel, by decide +kernel⟩, (zm_in 1315 rfl rfl), (zm_in 1316 rfl rfl)⟩
def mX8_likeliestOf : zm_M := (RX8, yX8_likeliestOf, cX8_likeliestOf, 10, (some .int))
set_option maxRecDepth 100000 in
theorem mtX8_likeliestOf : zm_Mv mX8_likeliestOf 3 := ⟨⟨rfl, (zm_in 1325 rfl rfl), (zm_in 87 rfl rfl), by decide +kernel, by decide +kernel, by decide +kernel, by decide +kernel⟩, (zm_in 1324 rfl rfl), (zm_in 73 rfl rfl)⟩
def mX8_likeliest : zm_M := (RX8, yX8_likeliest, cX8_likeliest, 4, (some .int))
set_option maxRecDepth 100000 in
theorem mtX8_likeliest : zm_Mv mX8_likeliest 3 := ⟨⟨rfl, (zm_in 1321 rfl rfl), (zm_in 87 rfl rfl), by decide +kernel, by decide +kernel, by decide +kernel, by decide +kernel⟩, (zm_in 1319 rfl rfl), (zm_in 1320 rfl rfl)⟩
def mX8_power : zm_M := (RX8, yX8_power, cX8_power, 4, (some .int))
set_option maxRecDepth 100000 in
theorem mtX8_power : zm_Ms mX8_power 2 := ⟨⟨rfl, (zm_in 1342 rfl rfl), (zm_in 87 rfl rfl), by decide +kernel, by decide +kernel, by decide +kernel, by decide +kernel⟩, (zm_in 1341 rfl rfl)⟩
def mX8_isSome : zm_M := (RX8, yX8_isSome, cX8_isSome, 2, (some .boolean))
set_option maxRecDepth 100000 in
theorem mtX8_isSome : zm_Mv mX8_isSome 1 := ⟨⟨rfl, (zm_in 1339 rfl rfl), (zm_in 87 rfl rfl), by decide +kernel, by decide +kernel, by decide +kernel, by decide +kernel⟩, (zm_in 1338 rfl rfl), (zm_in 75 rfl rfl)⟩
def mX8_learnt : zm_M := (RX8, yX8_learnt, cX8_learnt, 8, (some .int))
set_option maxRecDepth 100000 in
theorem mtX8_learnt : zm_Mv mX8_learnt 2 := ⟨⟨rfl, (zm_in 1346 rfl rfl), (zm_in 87 rfl rfl), by decide +kernel, by decide +kernel, by decide +kernel, by decide +kernel⟩, (zm_in 1345 rfl rfl), (zm_in 76 rfl rfl)⟩
def mX8_lessonsOf : zm_M := (RX8, yX8_lessonsOf, cX8_lessonsOf, 7, (some .int))
set_option maxRecDepth 100000 in
theorem mtX8_lessonsOf : zm_Mv mX8_lessonsOf 2 := ⟨⟨rfl, (zm_in 1335 rfl rfl), (zm_in 87 rfl rfl), by decide +kernel, by decide +kernel, by decide +kernel, by decide +kernel⟩, (zm_in 1334 rfl rfl), (zm_in 74 rfl rfl)⟩
def mX8_lessons : zm_M := (RX8, yX8_lessons, cX8_lessons, 3, (some .int))
set_option maxRecDepth 100000 in
theorem mtX8_lessons : zm_Mv mX8_lessons 2 := ⟨⟨rfl, (zm_in 1330 rfl rfl), (zm_in 87 rfl rfl), by decide +kernel, by decide +kernel, by decide +kernel, by decide +kernel⟩, (zm_in 1328 rfl rfl), (zm_in 1329 rfl rfl)⟩
def mX8_write : zm_M := (RX8, yX8_write, cX8_write, 4, (some .int))
set_option maxRecDepth 100000 in
theorem mtX8_write : zm_Mv mX8_write 1 := ⟨⟨rfl, (zm_in 1350 rfl rfl), (zm_in 87 rfl rfl), by decide +kernel, by decide +kernel, by decide +kernel, by decide +kernel⟩, (zm_in 1348 rfl rfl), (zm_in 1349 rfl rfl)⟩
def mX8_pupilsWith : zm_M := (RX8, yX8_pupilsWith, cX8_pupilsWith, 3, (some .int))
set_option maxRecDepth 100000 in
theorem mtX8_pupilsWith : zm_Mv mX8_pupilsWith 0 := ⟨⟨rfl, (zm_in 1358 rfl rfl), (zm_in 87 rfl rfl), by decide +kernel, by decide +kernel, by decide +kernel, by decide +kernel⟩, (zm_in 1357 rfl rfl), (zm_in 77 rfl rfl)⟩
def mX8_count : zm_M := (RX8, yX8_count, cX8_count, 2, (some .int))
set_option maxRecDepth 100000 in
theorem mtX8_count : zm_Mv mX8_count 1 := ⟨⟨rfl, (zm_in 1354 rfl rfl), (zm_in 87 rfl rfl), by decide +kernel, by decide +kernel, by decide +kernel, by decide +kernel⟩, (zm_in 1352 rfl rfl), (zm_in 1353 rfl rfl)⟩
def mX8_digest : zm_M := (RX8, yX8_digest, cX8_digest, 10, (some .long))
set_option maxRecDepth 100000 in
theorem mtX8_digest : zm_Mv mX8_digest 0 := ⟨⟨rfl, (zm_in 1362 rfl rfl), (zm_in 87 rfl rfl), by decide +kernel, by decide +kernel, by decide +kernel, by decide +kernel⟩, (zm_in 1360 rfl rfl), (zm_in 1361 rfl rfl)⟩
def mJ6_numberOfTrailingZeros_0f7a4 : zm_M := (RJ6, yJ6_numberOfTrailingZeros_0f7a4, cJ6_numberOfTrailingZeros_0f7a4, 2, (some .int))
set_option maxRecDepth 100000 in
theorem mtJ6_numberOfTrailingZeros_0f7a4 : zm_Ms mJ6_numberOfTrailingZeros_0f7a4 1 := ⟨⟨rfl, (zm_in 559 rfl rfl), (zm_in 90 rfl rfl), by decide +kernel, by decide +kernel, by decide +kernel, by decide +kernel⟩, (zm_in 558 rfl rfl)⟩
def mJ6_bitCount_0f7a4 : zm_M := (RJ6, yJ6_bitCount_0f7a4, cJ6_bitCount_0f7a4, 1, (some .int))
set_option maxRecDepth 100000 in
theorem mtJ6_bitCount_0f7a4 : zm_Ms mJ6_bitCount_0f7a4 1 := ⟨⟨rfl, (zm_in 512 rfl rfl), (zm_in 90 rfl rfl), by decide +kernel, by decide +kernel, by decide +kernel, by decide +kernel⟩, (zm_in 511 rfl rfl)⟩
def mJ7_fill_d0a16 : zm_M := (RJ7, yJ7_fill_d0a16, cJ7_fill_d0a16, 5, none)
set_option maxRecDepth 100000 in
theorem mtJ7_fill_d0a16 : zm_Ms mJ7_fill_d0a16 2 := ⟨⟨rfl, (zm_in 546 rfl rfl), (zm_in 88 rfl rfl), by decide +kernel, by decide +kernel, by decide +kernel, by decide +kernel⟩, (zm_in 545 rfl rfl)⟩
def mJ7_fill_53178 : zm_M := (RJ7, yJ7_fill_53178, cJ7_fill_53178, 4, none)
set_option maxRecDepth 100000 in
theorem mtJ7_fill_53178 : zm_Ms mJ7_fill_53178 2 := ⟨⟨rfl, (zm_in 397 rfl rfl), (zm_in 88 rfl rfl), by decide +kernel, by decide +kernel, by decide +kernel, by decide +kernel⟩, (zm_in 396 rfl rfl)⟩
set_option maxRecDepth 100000 in
theorem lkX0_51 : Cond.methodLink RX0 51 yX0_isFull ∈ zm_tb := (zm_in 425 rfl rfl)
set_option maxRecDepth 100000 in
theorem lkX0_55 : Cond.methodLink RX0 55 yX0_hear ∈ zm_tb := (zm_in 398 rfl rfl)
set_option maxRecDepth 100000 in
theorem lkX0_59 : Cond.methodLink RX0 59 yJ7_fill_53178 ∈ zm_tb := (zm_in 395 rfl rfl)
set_option maxRecDepth 100000 in
theorem lkX0_65 : Cond.methodLink RX0 65 yX0_withBit ∈ zm_tb := (zm_in 402 rfl rfl)
set_option maxRecDepth 100000 in
theorem lkX0_69 : Cond.methodLink RX0 69 yX0_yesOf ∈ zm_tb := (zm_in 524 rfl rfl)
set_option maxRecDepth 100000 in
theorem lkX0_73 : Cond.methodLink RX0 73 yX0_noOf ∈ zm_tb := (zm_in 528 rfl rfl)
set_option maxRecDepth 100000 in
theorem lkX0_76 : Cond.methodLink RX0 76 yJ6_bitCount_0f7a4 ∈ zm_tb := (zm_in 510 rfl rfl)
set_option maxRecDepth 100000 in
theorem lkX0_81 : Cond.methodLink RX0 81 yX0_given ∈ zm_tb := (zm_in 625 rfl rfl)
set_option maxRecDepth 100000 in
theorem lkX0_84 : Cond.methodLink RX0 84 Lib.Math.max.name ∈ zm_tb := (zm_in 633 rfl rfl)
set_option maxRecDepth 100000 in
theorem lkX0_90 : Cond.methodLink RX0 90 yX0_standing ∈ zm_tb := (zm_in 595 rfl rfl)
set_option maxRecDepth 100000 in
theorem lkX0_94 : Cond.methodLink RX0 94 yX0_errorsWith ∈ zm_tb := (zm_in 599 rfl rfl)
set_option maxRecDepth 100000 in
theorem lkX0_97 : Cond.methodLink RX0 97 Lib.Math.min.name ∈ zm_tb := (zm_in 600 rfl rfl)
set_option maxRecDepth 100000 in
theorem lkX0_100 : Cond.methodLink RX0 100 yX0_power ∈ zm_tb := (zm_in 758 rfl rfl)
set_option maxRecDepth 100000 in
theorem lkX1_22 : Cond.methodLink RX1 22 yJ7_fill_53178 ∈ zm_tb := (zm_in 724 rfl rfl)
set_option maxRecDepth 100000 in
theorem lkX1_34 : Cond.methodLink RX1 34 yX1_note ∈ zm_tb := (zm_in 725 rfl rfl)
set_option maxRecDepth 100000 in
theorem lkX1_38 : Cond.methodLink RX1 38 Lib.Math.min.name ∈ zm_tb := (zm_in 729 rfl rfl)
set_option maxRecDepth 100000 in
theorem lkX1_47 : Cond.methodLink RX1 47 yX1_suffices ∈ zm_tb := (zm_in 734 rfl rfl)
set_option maxRecDepth 100000 in
theorem lkX1_51 : Cond.methodLink RX1 51 yX1_splitsWell ∈ zm_tb := (zm_in 739 rfl rfl)
set_option maxRecDepth 100000 in
theorem lkX1_55 : Cond.methodLink RX1 55 yJ6_bitCount_0f7a4 ∈ zm_tb := (zm_in 738 rfl rfl)
set_option maxRecDepth 100000 in
theorem lkX2_28 : Cond.methodLink RX2 28 yX2_readParts ∈ zm_tb := (zm_in 453 rfl rfl)
set_option maxRecDepth 100000 in
theorem lkX2_31 : Cond.methodLink RX2 31 yX2_forgetParts ∈ zm_tb := (zm_in 457 rfl rfl)
set_option maxRecDepth 100000 in
theorem lkX2_34 : Cond.methodLink RX2 34 yX2_firstFault ∈ zm_tb := (zm_in 462 rfl rfl)
set_option maxRecDepth 100000 in
theorem lkX2_38 : Cond.methodLink RX2 38 yJ7_fill_53178 ∈ zm_tb := (zm_in 461 rfl rfl)
set_option maxRecDepth 100000 in
theorem lkX2_47 : Cond.methodLink RX2 47 yX2_faultOfPart ∈ zm_tb := (zm_in 466 rfl rfl)
set_option maxRecDepth 100000 in
theorem lkX2_51 : Cond.methodLink RX2 51 yX2_letterAt ∈ zm_tb := (zm_in 470 rfl rfl)
set_option maxRecDepth 100000 in
theorem lkX2_54 : Cond.methodLink RX2 54 yX2_tellPart ∈ zm_tb := (zm_in 478 rfl rfl)
set_option maxRecDepth 100000 in
theorem lkX2_58 : Cond.methodLink RX2 58 yX2_closesCircle ∈ zm_tb := (zm_in 474 rfl rfl)
set_option maxRecDepth 100000 in
theorem lkX3_33 : Cond.methodLink RX3 33 yX3_teach ∈ zm_tb := (zm_in 792 rfl rfl)
set_option maxRecDepth 100000 in
theorem lkX3_37 : Cond.methodLink RX3 37 yX3_judge ∈ zm_tb := (zm_in 796 rfl rfl)
set_option maxRecDepth 100000 in
theorem lkX3_46 : Cond.methodLink RX3 46 yX3_lesson ∈ zm_tb := (zm_in 803 rfl rfl)
set_option maxRecDepth 100000 in
theorem lkX4_38 : Cond.methodLink RX4 38 yX4_takeAnswers ∈ zm_tb := (zm_in 540 rfl rfl)
set_option maxRecDepth 100000 in
theorem lkX4_42 : Cond.methodLink RX4 42 yJ7_fill_53178 ∈ zm_tb := (zm_in 548 rfl rfl)
set_option maxRecDepth 100000 in
theorem lkX4_55 : Cond.methodLink RX4 55 yX4_search ∈ zm_tb := (zm_in 549 rfl rfl)
set_option maxRecDepth 100000 in
theorem lkX4_71 : Cond.methodLink RX4 71 yX4_turn ∈ zm_tb := (zm_in 654 rfl rfl)
set_option maxRecDepth 100000 in
theorem lkX4_81 : Cond.methodLink RX4 81 yJ7_fill_d0a16 ∈ zm_tb := (zm_in 544 rfl rfl)
set_option maxRecDepth 100000 in
theorem lkX4_84 : Cond.methodLink RX4 84 yX0_heard ∈ zm_tb := (zm_in 547 rfl rfl)
set_option maxRecDepth 100000 in
theorem lkX4_91 : Cond.methodLink RX4 91 yX4_fillTables ∈ zm_tb := (zm_in 553 rfl rfl)
set_option maxRecDepth 100000 in
theorem lkX4_94 : Cond.methodLink RX4 94 yX4_lesser ∈ zm_tb := (zm_in 561 rfl rfl)
set_option maxRecDepth 100000 in
theorem lkX4_98 : Cond.methodLink RX4 98 yX4_total ∈ zm_tb := (zm_in 566 rfl rfl)
set_option maxRecDepth 100000 in
theorem lkX4_102 : Cond.methodLink RX4 102 yX4_extend ∈ zm_tb := (zm_in 571 rfl rfl)
set_option maxRecDepth 100000 in
theorem lkX4_106 : Cond.methodLink RX4 106 yJ6_numberOfTrailingZeros_0f7a4 ∈ zm_tb := (zm_in 557 rfl rfl)
set_option maxRecDepth 100000 in
theorem lkX4_112 : Cond.methodLink RX4 112 yX4_isHopeless ∈ zm_tb := (zm_in 575 rfl rfl)
set_option maxRecDepth 100000 in
theorem lkX4_116 : Cond.methodLink RX4 116 yX4_judge ∈ zm_tb := (zm_in 579 rfl rfl)
set_option maxRecDepth 100000 in
theorem lkX5_19 : Cond.methodLink RX5 19 yJ7_fill_53178 ∈ zm_tb := (zm_in 815 rfl rfl)
set_option maxRecDepth 100000 in
theorem lkX5_32 : Cond.methodLinkNest RX5 32 yX7_within "EasyToHard" ∈ zm_nt := (zm_inN 828 rfl rfl)
set_option maxRecDepth 100000 in
theorem lkX6_35 : Cond.methodLink RX6 35 yX6_holdsNeeds ∈ zm_tb := (zm_in 678 rfl rfl)
set_option maxRecDepth 100000 in
theorem lkX6_43 : Cond.methodLink RX6 43 yX6_neighbours ∈ zm_tb := (zm_in 710 rfl rfl)
set_option maxRecDepth 100000 in
theorem lkX7_62 : Cond.methodLink RX7 62 yX7_within ∈ zm_tb := (zm_in 384 rfl rfl)
set_option maxRecDepth 100000 in
theorem lkX7_72 : Cond.methodLink RX7 72 yX0_countAnew ∈ zm_tb := (zm_in 391 rfl rfl)
set_option maxRecDepth 100000 in
theorem lkX7_81 : Cond.methodLink RX7 81 yX0_timeFits ∈ zm_tb := (zm_in 409 rfl rfl)
set_option maxRecDepth 100000 in
theorem lkX7_85 : Cond.methodLink RX7 85 yX0_isFull ∈ zm_tb := (zm_in 413 rfl rfl)
set_option maxRecDepth 100000 in
theorem lkX7_89 : Cond.methodLink RX7 89 yX7_tellOne ∈ zm_tb := (zm_in 417 rfl rfl)
set_option maxRecDepth 100000 in
theorem lkX7_100 : Cond.methodLink RX7 100 yX7_tellFinding ∈ zm_tb := (zm_in 430 rfl rfl)
set_option maxRecDepth 100000 in
theorem lkX7_107 : Cond.methodLink RX7 107 Lib.Math.min.name ∈ zm_tb := (zm_in 434 rfl rfl)
set_option maxRecDepth 100000 in
theorem lkX7_116 : Cond.methodLink RX7 116 yX0_heard ∈ zm_tb := (zm_in 441 rfl rfl)
set_option maxRecDepth 100000 in
theorem lkX7_122 : Cond.methodLink RX7 122 yX2_append ∈ zm_tb := (zm_in 449 rfl rfl)
set_option maxRecDepth 100000 in
theorem lkX7_126 : Cond.methodLink RX7 126 yX2_clear ∈ zm_tb := (zm_in 486 rfl rfl)
set_option maxRecDepth 100000 in
theorem lkX7_132 : Cond.methodLink RX7 132 yX7_isQuestion ∈ zm_tb := (zm_in 498 rfl rfl)
set_option maxRecDepth 100000 in
theorem lkX7_135 : Cond.methodLink RX7 135 yX7_needsOf ∈ zm_tb := (zm_in 502 rfl rfl)
set_option maxRecDepth 100000 in
theorem lkX7_138 : Cond.methodLink RX7 138 yX0_errorsWith ∈ zm_tb := (zm_in 520 rfl rfl)
set_option maxRecDepth 100000 in
theorem lkX7_141 : Cond.methodLink RX7 141 yX4_searchBest ∈ zm_tb := (zm_in 536 rfl rfl)
set_option maxRecDepth 100000 in
theorem lkX7_154 : Cond.methodLink RX7 154 yX0_stepIn ∈ zm_tb := (zm_in 591 rfl rfl)
set_option maxRecDepth 100000 in
theorem lkX7_158 : Cond.methodLink RX7 158 yX0_offIn ∈ zm_tb := (zm_in 601 rfl rfl)
set_option maxRecDepth 100000 in
theorem lkX7_161 : Cond.methodLink RX7 161 yX7_isRow ∈ zm_tb := (zm_in 609 rfl rfl)
set_option maxRecDepth 100000 in
theorem lkX7_165 : Cond.methodLink RX7 165 yX7_refusal ∈ zm_tb := (zm_in 617 rfl rfl)
set_option maxRecDepth 100000 in
theorem lkX7_169 : Cond.methodLink RX7 169 yX0_givenByAll ∈ zm_tb := (zm_in 621 rfl rfl)
set_option maxRecDepth 100000 in
theorem lkX7_173 : Cond.methodLink RX7 173 yX0_largerShares ∈ zm_tb := (zm_in 629 rfl rfl)
set_option maxRecDepth 100000 in
theorem lkX7_176 : Cond.methodLink RX7 176 yX7_lowestTerm ∈ zm_tb := (zm_in 636 rfl rfl)
set_option maxRecDepth 100000 in
theorem lkX7_180 : Cond.methodLink RX7 180 yX4_offChanged ∈ zm_tb := (zm_in 650 rfl rfl)
set_option maxRecDepth 100000 in
theorem lkX7_186 : Cond.methodLink RX7 186 yX7_findStates ∈ zm_tb := (zm_in 666 rfl rfl)
set_option maxRecDepth 100000 in
theorem lkX7_193 : Cond.methodLink RX7 193 yX7_stateOf ∈ zm_tb := (zm_in 686 rfl rfl)
set_option maxRecDepth 100000 in
theorem lkX7_196 : Cond.methodLink RX7 196 yX7_statesWithErrors ∈ zm_tb := (zm_in 690 rfl rfl)
set_option maxRecDepth 100000 in
theorem lkX7_206 : Cond.methodLink RX7 206 yX6_neighbours ∈ zm_tb := (zm_in 698 rfl rfl)
set_option maxRecDepth 100000 in
theorem lkX7_209 : Cond.methodLink RX7 209 yX6_waysToAll ∈ zm_tb := (zm_in 706 rfl rfl)
set_option maxRecDepth 100000 in
theorem lkX7_212 : Cond.methodLink RX7 212 yJ6_bitCount_0f7a4 ∈ zm_tb := (zm_in 715 rfl rfl)
set_option maxRecDepth 100000 in
theorem lkX7_217 : Cond.methodLink RX7 217 yX1_begin ∈ zm_tb := (zm_in 720 rfl rfl)
set_option maxRecDepth 100000 in
theorem lkX7_221 : Cond.methodLink RX7 221 yX1_fewest ∈ zm_tb := (zm_in 730 rfl rfl)
set_option maxRecDepth 100000 in
theorem lkX7_224 : Cond.methodLink RX7 224 yX1_first ∈ zm_tb := (zm_in 743 rfl rfl)
set_option maxRecDepth 100000 in
theorem lkX7_227 : Cond.methodLink RX7 227 yX7_chanceFits ∈ zm_tb := (zm_in 751 rfl rfl)
set_option maxRecDepth 100000 in
theorem lkX7_231 : Cond.methodLink RX7 231 yX0_chanceAbove ∈ zm_tb := (zm_in 754 rfl rfl)
set_option maxRecDepth 100000 in
theorem lkX7_235 : Cond.methodLink RX7 235 yX0_chanceBelow ∈ zm_tb := (zm_in 761 rfl rfl)
set_option maxRecDepth 100000 in
theorem lkX7_240 : Cond.methodLink RX7 240 yX3_begin ∈ zm_tb := (zm_in 779 rfl rfl)
set_option maxRecDepth 100000 in
theorem lkX7_242 : Cond.methodLink RX7 242 yX0_given ∈ zm_tb := (zm_in 783 rfl rfl)
set_option maxRecDepth 100000 in
theorem lkX7_245 : Cond.methodLink RX7 245 yX3_admit ∈ zm_tb := (zm_in 784 rfl rfl)
set_option maxRecDepth 100000 in
theorem lkX7_248 : Cond.methodLink RX7 248 yX3_choose ∈ zm_tb := (zm_in 788 rfl rfl)
set_option maxRecDepth 100000 in
theorem lkX7_256 : Cond.methodLink RX7 256 yX5_renew ∈ zm_tb := (zm_in 811 rfl rfl)
set_option maxRecDepth 100000 in
theorem lkX7_259 : Cond.methodLink RX7 259 yX5_findingAt ∈ zm_tb := (zm_in 824 rfl rfl)
set_option maxRecDepth 100000 in
theorem lkX7_262 : Cond.methodLink RX7 262 yX5_put ∈ zm_tb := (zm_in 829 rfl rfl)
set_option maxRecDepth 100000 in
theorem lkX7_272 : Cond.methodLink RX7 272 yX5_hasRange ∈ zm_tb := (zm_in 842 rfl rfl)
set_option maxRecDepth 100000 in
theorem lkX7_281 : Cond.methodLink RX7 281 yX0_yesByAll ∈ zm_tb := (zm_in 855 rfl rfl)
set_option maxRecDepth 100000 in
theorem lkX7_284 : Cond.methodLink RX7 284 yX0_pupilsWithSome ∈ zm_tb := (zm_in 859 rfl rfl)
set_option maxRecDepth 100000 in
theorem lkX7_292 : Cond.methodLink RX7 292 yX7_count ∈ zm_tb := (zm_in 868 rfl rfl)
set_option maxRecDepth 100000 in
theorem lkX7_295 : Cond.methodLink RX7 295 yX7_join ∈ zm_tb := (zm_in 869 rfl rfl)
set_option maxRecDepth 100000 in
theorem lkX7_299 : Cond.methodLink RX7 299 yX7_fault ∈ zm_tb := (zm_in 873 rfl rfl)
set_option maxRecDepth 100000 in
theorem lkX7_302 : Cond.methodLink RX7 302 yX7_joinPupil ∈ zm_tb := (zm_in 874 rfl rfl)
set_option maxRecDepth 100000 in
theorem lkX7_306 : Cond.methodLink RX7 306 yX7_off ∈ zm_tb := (zm_in 881 rfl rfl)
set_option maxRecDepth 100000 in
theorem lkX7_309 : Cond.methodLink RX7 309 yX7_joinQuestion ∈ zm_tb := (zm_in 882 rfl rfl)
set_option maxRecDepth 100000 in
theorem lkX7_312 : Cond.methodLink RX7 312 yX7_fit ∈ zm_tb := (zm_in 890 rfl rfl)
set_option maxRecDepth 100000 in
theorem lkX7_316 : Cond.methodLink RX7 316 yX7_odd ∈ zm_tb := (zm_in 891 rfl rfl)
set_option maxRecDepth 100000 in
theorem lkX7_319 : Cond.methodLink RX7 319 yX7_worst ∈ zm_tb := (zm_in 892 rfl rfl)
set_option maxRecDepth 100000 in
theorem lkX7_322 : Cond.methodLink RX7 322 yX7_states ∈ zm_tb := (zm_in 893 rfl rfl)
set_option maxRecDepth 100000 in
theorem lkX7_325 : Cond.methodLink RX7 325 yX7_paths ∈ zm_tb := (zm_in 894 rfl rfl)
set_option maxRecDepth 100000 in
theorem lkX7_328 : Cond.methodLink RX7 328 yX7_sure ∈ zm_tb := (zm_in 895 rfl rfl)
set_option maxRecDepth 100000 in
theorem lkX7_332 : Cond.methodLink RX7 332 yX7_lessons ∈ zm_tb := (zm_in 896 rfl rfl)
set_option maxRecDepth 100000 in
theorem lkX7_337 : Cond.methodLink RX7 337 yX7_step ∈ zm_tb := (zm_in 878 rfl rfl)
set_option maxRecDepth 100000 in
theorem lkX7_340 : Cond.methodLink RX7 340 yX7_belongs ∈ zm_tb := (zm_in 879 rfl rfl)
set_option maxRecDepth 100000 in
theorem lkX7_343 : Cond.methodLink RX7 343 yX7_likeliest ∈ zm_tb := (zm_in 880 rfl rfl)
set_option maxRecDepth 100000 in
theorem lkX7_346 : Cond.methodLink RX7 346 yX7_row ∈ zm_tb := (zm_in 886 rfl rfl)
set_option maxRecDepth 100000 in
theorem lkX7_349 : Cond.methodLink RX7 349 yX7_without ∈ zm_tb := (zm_in 887 rfl rfl)
set_option maxRecDepth 100000 in
theorem lkX7_352 : Cond.methodLink RX7 352 yX7_deep ∈ zm_tb := (zm_in 888 rfl rfl)
set_option maxRecDepth 100000 in
theorem lkX7_355 : Cond.methodLink RX7 355 yX7_needed ∈ zm_tb := (zm_in 889 rfl rfl)
set_option maxRecDepth 100000 in
theorem lkX7_362 : Cond.methodLink RX7 362 yX0_tell ∈ zm_tb := (zm_in 421 rfl rfl)
set_option maxRecDepth 100000 in
theorem lkX7_366 : Cond.methodLink RX7 366 yX0_foundFor ∈ zm_tb := (zm_in 506 rfl rfl)
set_option maxRecDepth 100000 in
theorem lkX7_372 : Cond.methodLink RX7 372 yX6_begin ∈ zm_tb := (zm_in 670 rfl rfl)
set_option maxRecDepth 100000 in
theorem lkX7_375 : Cond.methodLink RX7 375 yX6_gather ∈ zm_tb := (zm_in 674 rfl rfl)
set_option maxRecDepth 100000 in
theorem lkX7_378 : Cond.methodLink RX7 378 yX7_commonDivisor ∈ zm_tb := (zm_in 639 rfl rfl)
set_option maxRecDepth 100000 in
theorem lkX8_78 : Cond.methodLink RX8 78 yX8_in ∈ zm_tb := (zm_in 999 rfl rfl)
set_option maxRecDepth 100000 in
theorem lkX8_88 : Cond.methodLink RX8 88 yX8_isSheet ∈ zm_tb := (zm_in 995 rfl rfl)
set_option maxRecDepth 100000 in
theorem lkX8_94 : Cond.methodLink RX8 94 yX8_met ∈ zm_tb := (zm_in 1003 rfl rfl)
set_option maxRecDepth 100000 in
theorem lkX8_98 : Cond.methodLink RX8 98 yX8_lacks ∈ zm_tb := (zm_in 1015 rfl rfl)
set_option maxRecDepth 100000 in
theorem lkX8_102 : Cond.methodLink RX8 102 yX8_cut ∈ zm_tb := (zm_in 1019 rfl rfl)
set_option maxRecDepth 100000 in
theorem lkX8_111 : Cond.methodLink RX8 111 yX8_n ∈ zm_tb := (zm_in 1116 rfl rfl)
set_option maxRecDepth 100000 in
theorem lkX8_115 : Cond.methodLink RX8 115 yX8_high ∈ zm_tb := (zm_in 1035 rfl rfl)
set_option maxRecDepth 100000 in
theorem lkX8_123 : Cond.methodLink RX8 123 yX8_isPupil ∈ zm_tb := (zm_in 1042 rfl rfl)
set_option maxRecDepth 100000 in
theorem lkX8_126 : Cond.methodLink RX8 126 yX8_isAny ∈ zm_tb := (zm_in 1046 rfl rfl)
set_option maxRecDepth 100000 in
theorem lkX8_129 : Cond.methodLink RX8 129 yX8_isLate ∈ zm_tb := (zm_in 1050 rfl rfl)
set_option maxRecDepth 100000 in
theorem lkX8_132 : Cond.methodLink RX8 132 yX8_answer ∈ zm_tb := (zm_in 1059 rfl rfl)
set_option maxRecDepth 100000 in
theorem lkX8_136 : Cond.methodLink RX8 136 yX8_findSays ∈ zm_tb := (zm_in 1064 rfl rfl)
set_option maxRecDepth 100000 in
theorem lkX8_150 : Cond.methodLink RX8 150 yX8_here ∈ zm_tb := (zm_in 1093 rfl rfl)
set_option maxRecDepth 100000 in
theorem lkX8_153 : Cond.methodLink RX8 153 yX8_isIn ∈ zm_tb := (zm_in 1105 rfl rfl)
set_option maxRecDepth 100000 in
theorem lkX8_157 : Cond.methodLink RX8 157 yX8_takes ∈ zm_tb := (zm_in 1097 rfl rfl)
set_option maxRecDepth 100000 in
theorem lkX8_160 : Cond.methodLink RX8 160 yX8_ahead ∈ zm_tb := (zm_in 1101 rfl rfl)
set_option maxRecDepth 100000 in
theorem lkX8_163 : Cond.methodLink RX8 163 yX8_clears ∈ zm_tb := (zm_in 1085 rfl rfl)
set_option maxRecDepth 100000 in
theorem lkX8_166 : Cond.methodLink RX8 166 yX8_readsPart ∈ zm_tb := (zm_in 1089 rfl rfl)
set_option maxRecDepth 100000 in
theorem lkX8_170 : Cond.methodLink RX8 170 yX8_reads ∈ zm_tb := (zm_in 1081 rfl rfl)
set_option maxRecDepth 100000 in
theorem lkX8_173 : Cond.methodLink RX8 173 yX8_isFound ∈ zm_tb := (zm_in 1131 rfl rfl)
set_option maxRecDepth 100000 in
theorem lkX8_176 : Cond.methodLink RX8 176 yX8_isQuestion ∈ zm_tb := (zm_in 1112 rfl rfl)
set_option maxRecDepth 100000 in
theorem lkX8_179 : Cond.methodLink RX8 179 yX8_isTwo ∈ zm_tb := (zm_in 1120 rfl rfl)
set_option maxRecDepth 100000 in
theorem lkX8_182 : Cond.methodLink RX8 182 yX8_find ∈ zm_tb := (zm_in 1123 rfl rfl)
set_option maxRecDepth 100000 in
theorem lkX8_185 : Cond.methodLink RX8 185 yX8_isNeeded ∈ zm_tb := (zm_in 1127 rfl rfl)
set_option maxRecDepth 100000 in
theorem lkX8_189 : Cond.methodLink RX8 189 yX8_bits ∈ zm_tb := (zm_in 1144 rfl rfl)
set_option maxRecDepth 100000 in
theorem lkX8_192 : Cond.methodLink RX8 192 yX8_ones ∈ zm_tb := (zm_in 1148 rfl rfl)
set_option maxRecDepth 100000 in
theorem lkX8_197 : Cond.methodLink RX8 197 yX8_errorsOf ∈ zm_tb := (zm_in 1140 rfl rfl)
set_option maxRecDepth 100000 in
theorem lkX8_200 : Cond.methodLink RX8 200 yX8_swaps ∈ zm_tb := (zm_in 1175 rfl rfl)
set_option maxRecDepth 100000 in
theorem lkX8_204 : Cond.methodLink RX8 204 yX8_findWrong ∈ zm_tb := (zm_in 1163 rfl rfl)
set_option maxRecDepth 100000 in
theorem lkX8_213 : Cond.methodLink RX8 213 yX8_offNow ∈ zm_tb := (zm_in 1167 rfl rfl)
set_option maxRecDepth 100000 in
theorem lkX8_216 : Cond.methodLink RX8 216 yX8_goesOn ∈ zm_tb := (zm_in 1171 rfl rfl)
set_option maxRecDepth 100000 in
theorem lkX8_219 : Cond.methodLink RX8 219 yX8_findOrder ∈ zm_tb := (zm_in 1159 rfl rfl)
set_option maxRecDepth 100000 in
theorem lkX8_222 : Cond.methodLink RX8 222 yX8_findBest ∈ zm_tb := (zm_in 1155 rfl rfl)
set_option maxRecDepth 100000 in
theorem lkX8_225 : Cond.methodLink RX8 225 yX8_stepOf ∈ zm_tb := (zm_in 1187 rfl rfl)
set_option maxRecDepth 100000 in
theorem lkX8_228 : Cond.methodLink RX8 228 yX8_whole ∈ zm_tb := (zm_in 1195 rfl rfl)
set_option maxRecDepth 100000 in
theorem lkX8_231 : Cond.methodLink RX8 231 yX8_allAnswers ∈ zm_tb := (zm_in 1207 rfl rfl)
set_option maxRecDepth 100000 in
theorem lkX8_234 : Cond.methodLink RX8 234 yX8_no ∈ zm_tb := (zm_in 1211 rfl rfl)
set_option maxRecDepth 100000 in
theorem lkX8_238 : Cond.methodLink RX8 238 yX8_shares ∈ zm_tb := (zm_in 1215 rfl rfl)
set_option maxRecDepth 100000 in
theorem lkX8_241 : Cond.methodLink RX8 241 yX8_part ∈ zm_tb := (zm_in 1219 rfl rfl)
set_option maxRecDepth 100000 in
theorem lkX8_245 : Cond.methodLink RX8 245 yX8_fitOf ∈ zm_tb := (zm_in 1203 rfl rfl)
set_option maxRecDepth 100000 in
theorem lkX8_249 : Cond.methodLink RX8 249 yX8_oddNow ∈ zm_tb := (zm_in 1226 rfl rfl)
set_option maxRecDepth 100000 in
theorem lkX8_252 : Cond.methodLink RX8 252 yX8_withoutOf ∈ zm_tb := (zm_in 1234 rfl rfl)
set_option maxRecDepth 100000 in
theorem lkX8_255 : Cond.methodLink RX8 255 yX8_worstOf ∈ zm_tb := (zm_in 1242 rfl rfl)
set_option maxRecDepth 100000 in
theorem lkX8_258 : Cond.methodLink RX8 258 yX8_findNeeds ∈ zm_tb := (zm_in 1254 rfl rfl)
set_option maxRecDepth 100000 in
theorem lkX8_261 : Cond.methodLink RX8 261 yX8_isState ∈ zm_tb := (zm_in 1258 rfl rfl)
set_option maxRecDepth 100000 in
theorem lkX8_264 : Cond.methodLink RX8 264 yX8_statesOf ∈ zm_tb := (zm_in 1250 rfl rfl)
set_option maxRecDepth 100000 in
theorem lkX8_267 : Cond.methodLink RX8 267 yX8_belongsOf ∈ zm_tb := (zm_in 1266 rfl rfl)
set_option maxRecDepth 100000 in
theorem lkX8_270 : Cond.methodLink RX8 270 yX8_pathsNow ∈ zm_tb := (zm_in 1278 rfl rfl)
set_option maxRecDepth 100000 in
theorem lkX8_273 : Cond.methodLink RX8 273 yX8_deepOf ∈ zm_tb := (zm_in 1286 rfl rfl)
set_option maxRecDepth 100000 in
theorem lkX8_276 : Cond.methodLink RX8 276 yX8_byAsking ∈ zm_tb := (zm_in 1298 rfl rfl)
set_option maxRecDepth 100000 in
theorem lkX8_279 : Cond.methodLink RX8 279 yX8_sureOf ∈ zm_tb := (zm_in 1294 rfl rfl)
set_option maxRecDepth 100000 in
theorem lkX8_284 : Cond.methodLink RX8 284 yX8_areLots ∈ zm_tb := (zm_in 1306 rfl rfl)
set_option maxRecDepth 100000 in
theorem lkX8_287 : Cond.methodLink RX8 287 yX8_chanceAbove ∈ zm_tb := (zm_in 1310 rfl rfl)
set_option maxRecDepth 100000 in
theorem lkX8_293 : Cond.methodLink RX8 293 yX8_likeliestOf ∈ zm_tb := (zm_in 1322 rfl rfl)
set_option maxRecDepth 100000 in
theorem lkX8_296 : Cond.methodLink RX8 296 yX8_power ∈ zm_tb := (zm_in 1340 rfl rfl)
set_option maxRecDepth 100000 in
theorem lkX8_299 : Cond.methodLink RX8 299 yX8_isSome ∈ zm_tb := (zm_in 1336 rfl rfl)
set_option maxRecDepth 100000 in
theorem lkX8_302 : Cond.methodLink RX8 302 yX8_learnt ∈ zm_tb := (zm_in 1343 rfl rfl)
set_option maxRecDepth 100000 in
theorem lkX8_307 : Cond.methodLink RX8 307 yX8_lessonsOf ∈ zm_tb := (zm_in 1332 rfl rfl)
set_option maxRecDepth 100000 in
theorem lkX8_310 : Cond.methodLink RX8 310 yX8_pupilsWith ∈ zm_tb := (zm_in 1355 rfl rfl)
set_option maxRecDepth 100000 in
theorem lkX8_317 : Cond.methodLink RX8 317 yX8_count ∈ zm_tb := (zm_in 1365 rfl rfl)
set_option maxRecDepth 100000 in
theorem lkX3_54 : Cond.methodLink RX3 54 arraycopyName ∈ zm_tb := (zm_in 800 rfl rfl)
set_option maxRecDepth 100000 in
theorem lkX7_275 : Cond.methodLink RX7 275 arraycopyName ∈ zm_tb := (zm_in 846 rfl rfl)
set_option maxRecDepth 100000 in
theorem zm_acn : Cond.native arraycopyName ∈ zm_tb := (zm_in 802 rfl rfl)
set_option maxRecDepth 100000 in
theorem zm_acs : Cond.static arraycopyName ∈ zm_tb := (zm_in 801 rfl rfl)
set_option maxRecDepth 100000 in
theorem zm_mmmin : Cond.static Lib.Math.min.name ∈ zm_tb ∧ Cond.initialized "java/lang/Math" ∈ zm_tb ∧ Cond.code Lib.Math.min.name Lib.Math.min.code 2 (some .int) ∈ zm_tb := ⟨(zm_in 435 rfl rfl), (zm_in 89 rfl rfl), (zm_in 436 rfl rfl)⟩
set_option maxRecDepth 100000 in
theorem zm_mmmax : Cond.static Lib.Math.max.name ∈ zm_tb ∧ Cond.initialized "java/lang/Math" ∈ zm_tb ∧ Cond.code Lib.Math.max.name Lib.Math.max.code 2 (some .int) ∈ zm_tb := ⟨(zm_in 634 rfl rfl), (zm_in 89 rfl rfl), (zm_in 635 rfl rfl)⟩
set_option maxRecDepth 100000 in
theorem zm_aci : Cond.initialized "java/lang/System" ∈ zm_tb := (zm_in 91 rfl rfl)
set_option maxRecDepth 100000 in
theorem flX0_9 : zm_Fl RX0 9 (TX0 0) := Or.inl (zm_in 106 rfl rfl)
set_option maxRecDepth 100000 in
theorem flX0_15 : zm_Fl RX0 15 (TX0 1) := Or.inl (zm_in 107 rfl rfl)
set_option maxRecDepth 100000 in
theorem flX0_18 : zm_Fl RX0 18 (TX0 2) := Or.inl (zm_in 108 rfl rfl)
set_option maxRecDepth 100000 in
theorem flX0_21 : zm_Fl RX0 21 (TX0 3) := Or.inl (zm_in 109 rfl rfl)
set_option maxRecDepth 100000 in
theorem flX0_25 : zm_Fl RX0 25 (TX0 4) := Or.inl (zm_in 110 rfl rfl)
set_option maxRecDepth 100000 in
theorem flX0_29 : zm_Fl RX0 29 (TX0 5) := Or.inl (zm_in 111 rfl rfl)
set_option maxRecDepth 100000 in
theorem flX0_32 : zm_Fl RX0 32 (TX0 6) := Or.inl (zm_in 112 rfl rfl)
set_option maxRecDepth 100000 in
theorem flX0_35 : zm_Fl RX0 35 (TX0 7) := Or.inl (zm_in 113 rfl rfl)
set_option maxRecDepth 100000 in
theorem flX0_38 : zm_Fl RX0 38 (TX0 9) := Or.inl (zm_in 116 rfl rfl)
set_option maxRecDepth 100000 in
theorem flX0_42 : zm_Fl RX0 42 (TX0 10) := Or.inl (zm_in 119 rfl rfl)
set_option maxRecDepth 100000 in
theorem flX0_45 : zm_Fl RX0 45 (TX0 11) := Or.inl (zm_in 122 rfl rfl)
set_option maxRecDepth 100000 in
theorem flX0_48 : zm_Fl RX0 48 (TX0 8) := Or.inl (zm_in 114 rfl rfl)
set_option maxRecDepth 100000 in
theorem flX1_9 : zm_Fl RX1 9 (TX1 0) := Or.inl (zm_in 289 rfl rfl)
set_option maxRecDepth 100000 in
theorem flX1_15 : zm_Fl RX1 15 (TX6 5) := Or.inr ⟨"EasyToHard", (zm_inN 258 rfl rfl)⟩
set_option maxRecDepth 100000 in
theorem flX1_21 : zm_Fl RX1 21 (TX1 1) := Or.inl (zm_in 290 rfl rfl)
set_option maxRecDepth 100000 in
theorem flX1_28 : zm_Fl RX1 28 (TX6 7) := Or.inr ⟨"EasyToHard", (zm_inN 262 rfl rfl)⟩
set_option maxRecDepth 100000 in
theorem flX1_31 : zm_Fl RX1 31 (TX6 2) := Or.inr ⟨"EasyToHard", (zm_inN 252 rfl rfl)⟩
set_option maxRecDepth 100000 in
theorem flX1_44 : zm_Fl RX1 44 (TX1 2) := Or.inl (zm_in 291 rfl rfl)
set_option maxRecDepth 100000 in
theorem flX2_9 : zm_Fl RX2 9 (TX2 0) := Or.inl (zm_in 157 rfl rfl)
set_option maxRecDepth 100000 in
theorem flX2_15 : zm_Fl RX2 15 (TX2 1) := Or.inl (zm_in 158 rfl rfl)
set_option maxRecDepth 100000 in
theorem flX2_18 : zm_Fl RX2 18 (TX2 2) := Or.inl (zm_in 160 rfl rfl)
set_option maxRecDepth 100000 in
theorem flX2_21 : zm_Fl RX2 21 (TX2 5) := Or.inl (zm_in 165 rfl rfl)
set_option maxRecDepth 100000 in
theorem flX2_25 : zm_Fl RX2 25 (TX2 3) := Or.inl (zm_in 161 rfl rfl)
set_option maxRecDepth 100000 in
theorem flX2_44 : zm_Fl RX2 44 (TX2 4) := Or.inl (zm_in 163 rfl rfl)
set_option maxRecDepth 100000 in
theorem flX3_11 : zm_Fl RX3 11 (TX3 0) := Or.inl (zm_in 307 rfl rfl)
set_option maxRecDepth 100000 in
theorem flX3_16 : zm_Fl RX3 16 (TX3 1) := Or.inl (zm_in 308 rfl rfl)
set_option maxRecDepth 100000 in
theorem flX3_20 : zm_Fl RX3 20 (TX3 2) := Or.inl (zm_in 309 rfl rfl)
set_option maxRecDepth 100000 in
theorem flX3_23 : zm_Fl RX3 23 (TX3 3) := Or.inl (zm_in 311 rfl rfl)
set_option maxRecDepth 100000 in
theorem flX3_27 : zm_Fl RX3 27 (TX3 4) := Or.inl (zm_in 312 rfl rfl)
set_option maxRecDepth 100000 in
theorem flX3_30 : zm_Fl RX3 30 (TX3 5) := Or.inl (zm_in 313 rfl rfl)
set_option maxRecDepth 100000 in
theorem flX3_41 : zm_Fl RX3 41 (TX6 5) := Or.inr ⟨"EasyToHard", (zm_inN 259 rfl rfl)⟩
set_option maxRecDepth 100000 in
theorem flX3_50 : zm_Fl RX3 50 (TX6 1) := Or.inr ⟨"EasyToHard", (zm_inN 249 rfl rfl)⟩
set_option maxRecDepth 100000 in
theorem flX4_9 : zm_Fl RX4 9 (TX4 0) := Or.inl (zm_in 186 rfl rfl)
set_option maxRecDepth 100000 in
theorem flX4_15 : zm_Fl RX4 15 (TX4 1) := Or.inl (zm_in 187 rfl rfl)
set_option maxRecDepth 100000 in
theorem flX4_18 : zm_Fl RX4 18 (TX4 2) := Or.inl (zm_in 188 rfl rfl)
set_option maxRecDepth 100000 in
theorem flX4_21 : zm_Fl RX4 21 (TX4 3) := Or.inl (zm_in 189 rfl rfl)
set_option maxRecDepth 100000 in
theorem flX4_24 : zm_Fl RX4 24 (TX4 4) := Or.inl (zm_in 190 rfl rfl)
set_option maxRecDepth 100000 in
theorem flX4_28 : zm_Fl RX4 28 (TX4 5) := Or.inl (zm_in 191 rfl rfl)
set_option maxRecDepth 100000 in
theorem flX4_31 : zm_Fl RX4 31 (TX4 6) := Or.inl (zm_in 193 rfl rfl)
set_option maxRecDepth 100000 in
theorem flX4_34 : zm_Fl RX4 34 (TX4 7) := Or.inl (zm_in 194 rfl rfl)
set_option maxRecDepth 100000 in
theorem flX4_48 : zm_Fl RX4 48 (TX4 8) := Or.inl (zm_in 196 rfl rfl)
set_option maxRecDepth 100000 in
theorem flX4_51 : zm_Fl RX4 51 (TX4 10) := Or.inl (zm_in 198 rfl rfl)
set_option maxRecDepth 100000 in
theorem flX4_59 : zm_Fl RX4 59 (TX4 12) := Or.inl (zm_in 200 rfl rfl)
set_option maxRecDepth 100000 in
theorem flX4_62 : zm_Fl RX4 62 (TX4 14) := Or.inl (zm_in 202 rfl rfl)
set_option maxRecDepth 100000 in
theorem flX4_65 : zm_Fl RX4 65 (TX4 13) := Or.inl (zm_in 201 rfl rfl)
set_option maxRecDepth 100000 in
theorem flX4_68 : zm_Fl RX4 68 (TX4 15) := Or.inl (zm_in 204 rfl rfl)
set_option maxRecDepth 100000 in
theorem flX4_74 : zm_Fl RX4 74 (TX0 9) := Or.inr ⟨"EasyToHard", (zm_inN 117 rfl rfl)⟩
set_option maxRecDepth 100000 in
theorem flX4_79 : zm_Fl RX4 79 (TX4 9) := Or.inl (zm_in 197 rfl rfl)
set_option maxRecDepth 100000 in
theorem flX4_80 : zm_Fl RX4 80 (TX0 10) := Or.inr ⟨"EasyToHard", (zm_inN 120 rfl rfl)⟩
set_option maxRecDepth 100000 in
theorem flX4_88 : zm_Fl RX4 88 (TX4 11) := Or.inl (zm_in 199 rfl rfl)
set_option maxRecDepth 100000 in
theorem flX5_9 : zm_Fl RX5 9 (TX5 0) := Or.inl (zm_in 335 rfl rfl)
set_option maxRecDepth 100000 in
theorem flX5_15 : zm_Fl RX5 15 (TX5 1) := Or.inl (zm_in 337 rfl rfl)
set_option maxRecDepth 100000 in
theorem flX5_25 : zm_Fl RX5 25 (TX5 2) := Or.inl (zm_in 339 rfl rfl)
set_option maxRecDepth 100000 in
theorem flX5_29 : zm_Fl RX5 29 (TX5 3) := Or.inl (zm_in 341 rfl rfl)
set_option maxRecDepth 100000 in
theorem flX6_9 : zm_Fl RX6 9 (TX6 0) := Or.inl (zm_in 246 rfl rfl)
set_option maxRecDepth 100000 in
theorem flX6_15 : zm_Fl RX6 15 (TX6 1) := Or.inl (zm_in 248 rfl rfl)
set_option maxRecDepth 100000 in
theorem flX6_19 : zm_Fl RX6 19 (TX6 2) := Or.inl (zm_in 251 rfl rfl)
set_option maxRecDepth 100000 in
theorem flX6_22 : zm_Fl RX6 22 (TX6 3) := Or.inl (zm_in 254 rfl rfl)
set_option maxRecDepth 100000 in
theorem flX6_25 : zm_Fl RX6 25 (TX6 5) := Or.inl (zm_in 257 rfl rfl)
set_option maxRecDepth 100000 in
theorem flX6_29 : zm_Fl RX6 29 (TX6 6) := Or.inl (zm_in 260 rfl rfl)
set_option maxRecDepth 100000 in
theorem flX6_32 : zm_Fl RX6 32 (TX6 7) := Or.inl (zm_in 263 rfl rfl)
set_option maxRecDepth 100000 in
theorem flX6_39 : zm_Fl RX6 39 (TX6 4) := Or.inl (zm_in 256 rfl rfl)
set_option maxRecDepth 100000 in
theorem flX7_9 : zm_Fl RX7 9 (TX7 0) := Or.inl (zm_in 352 rfl rfl)
set_option maxRecDepth 100000 in
theorem flX7_16 : zm_Fl RX7 16 (TX7 1) := Or.inl (zm_in 353 rfl rfl)
set_option maxRecDepth 100000 in
theorem flX7_23 : zm_Fl RX7 23 (TX7 2) := Or.inl (zm_in 354 rfl rfl)
set_option maxRecDepth 100000 in
theorem flX7_30 : zm_Fl RX7 30 (TX7 3) := Or.inl (zm_in 355 rfl rfl)
set_option maxRecDepth 100000 in
theorem flX7_37 : zm_Fl RX7 37 (TX7 4) := Or.inl (zm_in 356 rfl rfl)
set_option maxRecDepth 100000 in
theorem flX7_44 : zm_Fl RX7 44 (TX7 5) := Or.inl (zm_in 357 rfl rfl)
set_option maxRecDepth 100000 in
theorem flX7_51 : zm_Fl RX7 51 (TX7 6) := Or.inl (zm_in 358 rfl rfl)
set_option maxRecDepth 100000 in
theorem flX7_57 : zm_Fl RX7 57 (TX7 7) := Or.inl (zm_in 359 rfl rfl)
set_option maxRecDepth 100000 in
theorem flX7_76 : zm_Fl RX7 76 (TX4 7) := Or.inr ⟨"EasyToHard", (zm_inN 195 rfl rfl)⟩
set_option maxRecDepth 100000 in
theorem flX7_80 : zm_Fl RX7 80 (TX6 4) := Or.inr ⟨"EasyToHard", (zm_inN 255 rfl rfl)⟩
set_option maxRecDepth 100000 in
theorem flX7_93 : zm_Fl RX7 93 (TX0 8) := Or.inr ⟨"EasyToHard", (zm_inN 115 rfl rfl)⟩
set_option maxRecDepth 100000 in
theorem flX7_97 : zm_Fl RX7 97 (TX5 1) := Or.inr ⟨"EasyToHard", (zm_inN 338 rfl rfl)⟩
set_option maxRecDepth 100000 in
theorem flX7_104 : zm_Fl RX7 104 (TX5 3) := Or.inr ⟨"EasyToHard", (zm_inN 342 rfl rfl)⟩
set_option maxRecDepth 100000 in
theorem flX7_113 : zm_Fl RX7 113 (TX5 0) := Or.inr ⟨"EasyToHard", (zm_inN 336 rfl rfl)⟩
set_option maxRecDepth 100000 in
theorem flX7_119 : zm_Fl RX7 119 (TX2 3) := Or.inr ⟨"EasyToHard", (zm_inN 162 rfl rfl)⟩
set_option maxRecDepth 100000 in
theorem flX7_129 : zm_Fl RX7 129 (TX2 5) := Or.inr ⟨"EasyToHard", (zm_inN 166 rfl rfl)⟩
set_option maxRecDepth 100000 in
theorem flX7_145 : zm_Fl RX7 145 (TX4 14) := Or.inr ⟨"EasyToHard", (zm_inN 203 rfl rfl)⟩
set_option maxRecDepth 100000 in
theorem flX7_148 : zm_Fl RX7 148 (TX4 15) := Or.inr ⟨"EasyToHard", (zm_inN 205 rfl rfl)⟩
set_option maxRecDepth 100000 in
theorem flX7_151 : zm_Fl RX7 151 (TX4 5) := Or.inr ⟨"EasyToHard", (zm_inN 192 rfl rfl)⟩
set_option maxRecDepth 100000 in
theorem flX7_183 : zm_Fl RX7 183 (TX0 9) := Or.inr ⟨"EasyToHard", (zm_inN 118 rfl rfl)⟩
set_option maxRecDepth 100000 in
theorem flX7_189 : zm_Fl RX7 189 (TX6 7) := Or.inr ⟨"EasyToHard", (zm_inN 264 rfl rfl)⟩
set_option maxRecDepth 100000 in
theorem flX7_190 : zm_Fl RX7 190 (TX6 2) := Or.inr ⟨"EasyToHard", (zm_inN 253 rfl rfl)⟩
set_option maxRecDepth 100000 in
theorem flX7_199 : zm_Fl RX7 199 (TX6 6) := Or.inr ⟨"EasyToHard", (zm_inN 261 rfl rfl)⟩
set_option maxRecDepth 100000 in
theorem flX7_202 : zm_Fl RX7 202 (TX6 1) := Or.inr ⟨"EasyToHard", (zm_inN 250 rfl rfl)⟩
set_option maxRecDepth 100000 in
theorem flX7_252 : zm_Fl RX7 252 (TX3 5) := Or.inr ⟨"EasyToHard", (zm_inN 314 rfl rfl)⟩
set_option maxRecDepth 100000 in
theorem flX7_255 : zm_Fl RX7 255 (TX3 2) := Or.inr ⟨"EasyToHard", (zm_inN 310 rfl rfl)⟩
set_option maxRecDepth 100000 in
theorem flX7_266 : zm_Fl RX7 266 (TX7 8) := Or.inl (zm_in 360 rfl rfl)
set_option maxRecDepth 100000 in
theorem flX7_269 : zm_Fl RX7 269 (TX5 2) := Or.inr ⟨"EasyToHard", (zm_inN 340 rfl rfl)⟩
set_option maxRecDepth 100000 in
theorem flX7_287 : zm_Fl RX7 287 (TX2 4) := Or.inr ⟨"EasyToHard", (zm_inN 164 rfl rfl)⟩
set_option maxRecDepth 100000 in
theorem flX7_365 : zm_Fl RX7 365 (TX0 10) := Or.inr ⟨"EasyToHard", (zm_inN 121 rfl rfl)⟩
set_option maxRecDepth 100000 in
theorem flX7_369 : zm_Fl RX7 369 (TX2 1) := Or.inr ⟨"EasyToHard", (zm_inN 159 rfl rfl)⟩
set_option maxRecDepth 100000 in
theorem flX7_374 : zm_Fl RX7 374 (TX6 0) := Or.inr ⟨"EasyToHard", (zm_inN 247 rfl rfl)⟩
set_option maxRecDepth 100000 in
theorem flX8_7 : zm_Fl RX8 7 (TX8 0) := Or.inl (zm_in 903 rfl rfl)
set_option maxRecDepth 100000 in
theorem flX8_13 : zm_Fl RX8 13 (TX8 1) := Or.inl (zm_in 904 rfl rfl)
set_option maxRecDepth 100000 in
theorem flX8_16 : zm_Fl RX8 16 (TX8 2) := Or.inl (zm_in 905 rfl rfl)
set_option maxRecDepth 100000 in
theorem flX8_19 : zm_Fl RX8 19 (TX8 3) := Or.inl (zm_in 906 rfl rfl)
set_option maxRecDepth 100000 in
theorem flX8_22 : zm_Fl RX8 22 (TX8 5) := Or.inl (zm_in 908 rfl rfl)
set_option maxRecDepth 100000 in
theorem flX8_25 : zm_Fl RX8 25 (TX8 7) := Or.inl (zm_in 910 rfl rfl)
set_option maxRecDepth 100000 in
theorem flX8_28 : zm_Fl RX8 28 (TX8 8) := Or.inl (zm_in 911 rfl rfl)
set_option maxRecDepth 100000 in
theorem flX8_31 : zm_Fl RX8 31 (TX8 9) := Or.inl (zm_in 912 rfl rfl)
set_option maxRecDepth 100000 in
theorem flX8_34 : zm_Fl RX8 34 (TX8 10) := Or.inl (zm_in 913 rfl rfl)
set_option maxRecDepth 100000 in
theorem flX8_37 : zm_Fl RX8 37 (TX8 11) := Or.inl (zm_in 914 rfl rfl)
set_option maxRecDepth 100000 in
theorem flX8_40 : zm_Fl RX8 40 (TX8 12) := Or.inl (zm_in 915 rfl rfl)
set_option maxRecDepth 100000 in
theorem flX8_43 : zm_Fl RX8 43 (TX8 16) := Or.inl (zm_in 919 rfl rfl)
set_option maxRecDepth 100000 in
theorem flX8_46 : zm_Fl RX8 46 (TX8 17) := Or.inl (zm_in 920 rfl rfl)
set_option maxRecDepth 100000 in
theorem flX8_49 : zm_Fl RX8 49 (TX8 18) := Or.inl (zm_in 921 rfl rfl)
set_option maxRecDepth 100000 in
theorem flX8_52 : zm_Fl RX8 52 (TX8 19) := Or.inl (zm_in 922 rfl rfl)
set_option maxRecDepth 100000 in
theorem flX8_55 : zm_Fl RX8 55 (TX8 20) := Or.inl (zm_in 923 rfl rfl)
set_option maxRecDepth 100000 in
theorem flX8_58 : zm_Fl RX8 58 (TX8 23) := Or.inl (zm_in 926 rfl rfl)
set_option maxRecDepth 100000 in
theorem flX8_61 : zm_Fl RX8 61 (TX8 24) := Or.inl (zm_in 927 rfl rfl)
set_option maxRecDepth 100000 in
theorem flX8_64 : zm_Fl RX8 64 (TX8 25) := Or.inl (zm_in 928 rfl rfl)
set_option maxRecDepth 100000 in
theorem flX8_67 : zm_Fl RX8 67 (TX8 26) := Or.inl (zm_in 929 rfl rfl)
set_option maxRecDepth 100000 in
theorem flX8_70 : zm_Fl RX8 70 (TX8 27) := Or.inl (zm_in 930 rfl rfl)
set_option maxRecDepth 100000 in
theorem flX8_73 : zm_Fl RX8 73 (TX8 28) := Or.inl (zm_in 931 rfl rfl)
set_option maxRecDepth 100000 in
theorem flX8_82 : zm_Fl RX8 82 (TX8 4) := Or.inl (zm_in 907 rfl rfl)
set_option maxRecDepth 100000 in
theorem flX8_118 : zm_Fl RX8 118 (TX8 6) := Or.inl (zm_in 909 rfl rfl)
set_option maxRecDepth 100000 in
theorem flX8_141 : zm_Fl RX8 141 (TX8 13) := Or.inl (zm_in 916 rfl rfl)
set_option maxRecDepth 100000 in
theorem flX8_144 : zm_Fl RX8 144 (TX8 14) := Or.inl (zm_in 917 rfl rfl)
set_option maxRecDepth 100000 in
theorem flX8_147 : zm_Fl RX8 147 (TX8 15) := Or.inl (zm_in 918 rfl rfl)
set_option maxRecDepth 100000 in
theorem flX8_207 : zm_Fl RX8 207 (TX8 21) := Or.inl (zm_in 924 rfl rfl)
set_option maxRecDepth 100000 in
theorem flX8_210 : zm_Fl RX8 210 (TX8 22) := Or.inl (zm_in 925 rfl rfl)
set_option maxRecDepth 100000 in
theorem kcJ6_264 : Cond.constant RJ6 264 (65536) ∈ zm_tb := (zm_in 560 rfl rfl)
set_option maxRecDepth 100000 in
theorem kcJ6_265 : Cond.constant RJ6 265 (1431655765) ∈ zm_tb := (zm_in 513 rfl rfl)
set_option maxRecDepth 100000 in
theorem kcJ6_266 : Cond.constant RJ6 266 (858993459) ∈ zm_tb := (zm_in 514 rfl rfl)
set_option maxRecDepth 100000 in
theorem kcJ6_267 : Cond.constant RJ6 267 (252645135) ∈ zm_tb := (zm_in 515 rfl rfl)
set_option maxRecDepth 100000 in
theorem kcX7_265 : Cond.constant RX7 265 (-2147483648) ∈ zm_tb := (zm_in 837 rfl rfl)
set_option maxRecDepth 100000 in
theorem kcX8_106 : Cond.constant RX8 106 (-2147483648) ∈ zm_tb := (zm_in 1026 rfl rfl)
set_option maxRecDepth 100000 in
theorem kcX0_104 : Cond.constantLong RX0 104 (16) ∈ zm_tb := (zm_in 765 rfl rfl)
set_option maxRecDepth 100000 in
theorem kcX4_119 : Cond.constantLong RX4 119 (150119987579016) ∈ zm_tb := (zm_in 564 rfl rfl)
set_option maxRecDepth 100000 in
theorem kcX4_121 : Cond.constantLong RX4 121 (-1) ∈ zm_tb := (zm_in 565 rfl rfl)
set_option maxRecDepth 100000 in
theorem kcX4_123 : Cond.constantLong RX4 123 (1085102592571150095) ∈ zm_tb := (zm_in 569 rfl rfl)
set_option maxRecDepth 100000 in
theorem kcX4_125 : Cond.constantLong RX4 125 (72340172838076673) ∈ zm_tb := (zm_in 570 rfl rfl)
set_option maxRecDepth 100000 in
theorem kcX7_238 : Cond.constantLong RX7 238 (-1) ∈ zm_tb := (zm_in 774 rfl rfl)
set_option maxRecDepth 100000 in
theorem kcX7_290 : Cond.constantLong RX7 290 (17) ∈ zm_tb := (zm_in 867 rfl rfl)
set_option maxRecDepth 100000 in
theorem kcX7_335 : Cond.constantLong RX7 335 (31) ∈ zm_tb := (zm_in 872 rfl rfl)
set_option maxRecDepth 100000 in
theorem kcX7_360 : Cond.constantLong RX7 360 (-9223372036854775808) ∈ zm_tb := (zm_in 620 rfl rfl)
set_option maxRecDepth 100000 in
theorem kcX8_76 : Cond.constantLong RX8 76 (-9223372036854775808) ∈ zm_tb := (zm_in 1214 rfl rfl)
set_option maxRecDepth 100000 in
theorem kcX8_86 : Cond.constantLong RX8 86 (3) ∈ zm_tb := (zm_in 998 rfl rfl)
set_option maxRecDepth 100000 in
theorem kcX8_92 : Cond.constantLong RX8 92 (2) ∈ zm_tb := (zm_in 1002 rfl rfl)
set_option maxRecDepth 100000 in
theorem kcX8_107 : Cond.constantLong RX8 107 (11) ∈ zm_tb := (zm_in 1045 rfl rfl)
set_option maxRecDepth 100000 in
theorem kcX8_109 : Cond.constantLong RX8 109 (6) ∈ zm_tb := (zm_in 1049 rfl rfl)
set_option maxRecDepth 100000 in
theorem kcX8_121 : Cond.constantLong RX8 121 (999) ∈ zm_tb := (zm_in 1054 rfl rfl)
set_option maxRecDepth 100000 in
theorem kcX8_139 : Cond.constantLong RX8 139 (255) ∈ zm_tb := (zm_in 1072 rfl rfl)
set_option maxRecDepth 100000 in
theorem kcX8_195 : Cond.constantLong RX8 195 (127) ∈ zm_tb := (zm_in 1139 rfl rfl)
set_option maxRecDepth 100000 in
theorem kcX8_282 : Cond.constantLong RX8 282 (16) ∈ zm_tb := (zm_in 1309 rfl rfl)
set_option maxRecDepth 100000 in
theorem kcX8_291 : Cond.constantLong RX8 291 (-1) ∈ zm_tb := (zm_in 1326 rfl rfl)
set_option maxRecDepth 100000 in
theorem kcX8_305 : Cond.constantLong RX8 305 (4) ∈ zm_tb := (zm_in 1331 rfl rfl)
set_option maxRecDepth 100000 in
theorem kcX8_313 : Cond.constantLong RX8 313 (17) ∈ zm_tb := (zm_in 1363 rfl rfl)
set_option maxRecDepth 100000 in
theorem kcX8_315 : Cond.constantLong RX8 315 (31) ∈ zm_tb := (zm_in 1364 rfl rfl)
