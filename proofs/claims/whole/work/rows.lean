section
-- ===== PART A: goes FIRST, ahead of the names: the tables' words, and 'selects' of the private methods out of them =====
/-- a private method of a class that the tables say can be made, by its rows of tables_1 -/
def lw_okq (q : MethodName × Nat) : Prop := (q.1.cls ≠ "java/lang/invoke/MethodHandle" ∧ q.1.cls ≠ "java/lang/invoke/VarHandle") ∧ Cond.instantiable q.1.cls q.2 ∈ tables_1 ∧ Cond.privateMethod q.1 ∈ tables_1 ∧ Cond.instanceMethod q.1 ∈ tables_1
theorem lw_p0 : lw_okq (⟨"EasyToHard$Answers", "hear", "(III)V"⟩, 12) := ⟨⟨by decide +kernel, by decide +kernel⟩, List.mem_of_getElem? (i := 23) (by decide +kernel), List.mem_of_getElem? (i := 321) (by decide +kernel), List.mem_of_getElem? (i := 322) (by decide +kernel)⟩
theorem lw_p1 : lw_okq (⟨"EasyToHard", "tellOne", "(IIII)V"⟩, 9) := ⟨⟨by decide +kernel, by decide +kernel⟩, List.mem_of_getElem? (i := 15) (by decide +kernel), List.mem_of_getElem? (i := 340) (by decide +kernel), List.mem_of_getElem? (i := 341) (by decide +kernel)⟩
theorem lw_p2 : lw_okq (⟨"EasyToHard", "tellFinding", "(I)I"⟩, 9) := ⟨⟨by decide +kernel, by decide +kernel⟩, List.mem_of_getElem? (i := 15) (by decide +kernel), List.mem_of_getElem? (i := 353) (by decide +kernel), List.mem_of_getElem? (i := 354) (by decide +kernel)⟩
theorem lw_p3 : lw_okq (⟨"EasyToHard$NeedsText", "readParts", "()V"⟩, 6) := ⟨⟨by decide +kernel, by decide +kernel⟩, List.mem_of_getElem? (i := 74) (by decide +kernel), List.mem_of_getElem? (i := 376) (by decide +kernel), List.mem_of_getElem? (i := 377) (by decide +kernel)⟩
theorem lw_p4 : lw_okq (⟨"EasyToHard$NeedsText", "forgetParts", "()V"⟩, 6) := ⟨⟨by decide +kernel, by decide +kernel⟩, List.mem_of_getElem? (i := 74) (by decide +kernel), List.mem_of_getElem? (i := 380) (by decide +kernel), List.mem_of_getElem? (i := 381) (by decide +kernel)⟩
theorem lw_p5 : lw_okq (⟨"EasyToHard$NeedsText", "firstFault", "()I"⟩, 6) := ⟨⟨by decide +kernel, by decide +kernel⟩, List.mem_of_getElem? (i := 74) (by decide +kernel), List.mem_of_getElem? (i := 385) (by decide +kernel), List.mem_of_getElem? (i := 386) (by decide +kernel)⟩
theorem lw_p6 : lw_okq (⟨"EasyToHard$NeedsText", "faultOfPart", "(I)I"⟩, 6) := ⟨⟨by decide +kernel, by decide +kernel⟩, List.mem_of_getElem? (i := 74) (by decide +kernel), List.mem_of_getElem? (i := 389) (by decide +kernel), List.mem_of_getElem? (i := 390) (by decide +kernel)⟩
theorem lw_p7 : lw_okq (⟨"EasyToHard$NeedsText", "letterAt", "(I)I"⟩, 6) := ⟨⟨by decide +kernel, by decide +kernel⟩, List.mem_of_getElem? (i := 74) (by decide +kernel), List.mem_of_getElem? (i := 393) (by decide +kernel), List.mem_of_getElem? (i := 394) (by decide +kernel)⟩
theorem lw_p8 : lw_okq (⟨"EasyToHard$NeedsText", "closesCircle", "(II)Z"⟩, 6) := ⟨⟨by decide +kernel, by decide +kernel⟩, List.mem_of_getElem? (i := 74) (by decide +kernel), List.mem_of_getElem? (i := 397) (by decide +kernel), List.mem_of_getElem? (i := 398) (by decide +kernel)⟩
theorem lw_p9 : lw_okq (⟨"EasyToHard$NeedsText", "tellPart", "(II)V"⟩, 6) := ⟨⟨by decide +kernel, by decide +kernel⟩, List.mem_of_getElem? (i := 74) (by decide +kernel), List.mem_of_getElem? (i := 401) (by decide +kernel), List.mem_of_getElem? (i := 402) (by decide +kernel)⟩
theorem lw_p10 : lw_okq (⟨"EasyToHard", "isQuestion", "(I)Z"⟩, 9) := ⟨⟨by decide +kernel, by decide +kernel⟩, List.mem_of_getElem? (i := 15) (by decide +kernel), List.mem_of_getElem? (i := 421) (by decide +kernel), List.mem_of_getElem? (i := 422) (by decide +kernel)⟩
theorem lw_p11 : lw_okq (⟨"EasyToHard", "needsOf", "(II)I"⟩, 9) := ⟨⟨by decide +kernel, by decide +kernel⟩, List.mem_of_getElem? (i := 15) (by decide +kernel), List.mem_of_getElem? (i := 425) (by decide +kernel), List.mem_of_getElem? (i := 426) (by decide +kernel)⟩
theorem lw_p12 : lw_okq (⟨"EasyToHard$Rows", "takeAnswers", "(LEasyToHard$Answers;)V"⟩, 16) := ⟨⟨by decide +kernel, by decide +kernel⟩, List.mem_of_getElem? (i := 103) (by decide +kernel), List.mem_of_getElem? (i := 463) (by decide +kernel), List.mem_of_getElem? (i := 464) (by decide +kernel)⟩
theorem lw_p13 : lw_okq (⟨"EasyToHard$Rows", "search", "(I)V"⟩, 16) := ⟨⟨by decide +kernel, by decide +kernel⟩, List.mem_of_getElem? (i := 103) (by decide +kernel), List.mem_of_getElem? (i := 472) (by decide +kernel), List.mem_of_getElem? (i := 473) (by decide +kernel)⟩
theorem lw_p14 : lw_okq (⟨"EasyToHard$Rows", "fillTables", "()V"⟩, 16) := ⟨⟨by decide +kernel, by decide +kernel⟩, List.mem_of_getElem? (i := 103) (by decide +kernel), List.mem_of_getElem? (i := 476) (by decide +kernel), List.mem_of_getElem? (i := 477) (by decide +kernel)⟩
theorem lw_p15 : lw_okq (⟨"EasyToHard$Rows", "extend", "(IIJ)V"⟩, 16) := ⟨⟨by decide +kernel, by decide +kernel⟩, List.mem_of_getElem? (i := 103) (by decide +kernel), List.mem_of_getElem? (i := 494) (by decide +kernel), List.mem_of_getElem? (i := 495) (by decide +kernel)⟩
def lw_privs_1 : List (MethodName × Nat) := [(⟨"EasyToHard$Answers", "hear", "(III)V"⟩, 12), (⟨"EasyToHard", "tellOne", "(IIII)V"⟩, 9), (⟨"EasyToHard", "tellFinding", "(I)I"⟩, 9), (⟨"EasyToHard$NeedsText", "readParts", "()V"⟩, 6), (⟨"EasyToHard$NeedsText", "forgetParts", "()V"⟩, 6), (⟨"EasyToHard$NeedsText", "firstFault", "()I"⟩, 6), (⟨"EasyToHard$NeedsText", "faultOfPart", "(I)I"⟩, 6), (⟨"EasyToHard$NeedsText", "letterAt", "(I)I"⟩, 6), (⟨"EasyToHard$NeedsText", "closesCircle", "(II)Z"⟩, 6), (⟨"EasyToHard$NeedsText", "tellPart", "(II)V"⟩, 6), (⟨"EasyToHard", "isQuestion", "(I)Z"⟩, 9), (⟨"EasyToHard", "needsOf", "(II)I"⟩, 9), (⟨"EasyToHard$Rows", "takeAnswers", "(LEasyToHard$Answers;)V"⟩, 16), (⟨"EasyToHard$Rows", "search", "(I)V"⟩, 16), (⟨"EasyToHard$Rows", "fillTables", "()V"⟩, 16), (⟨"EasyToHard$Rows", "extend", "(IIJ)V"⟩, 16)]
theorem lw_r1 : ∀ q ∈ lw_privs_1, lw_okq q := List.forall_mem_cons.mpr ⟨lw_p0, List.forall_mem_cons.mpr ⟨lw_p1, List.forall_mem_cons.mpr ⟨lw_p2, List.forall_mem_cons.mpr ⟨lw_p3, List.forall_mem_cons.mpr ⟨lw_p4, List.forall_mem_cons.mpr ⟨lw_p5, List.forall_mem_cons.mpr ⟨lw_p6, List.forall_mem_cons.mpr ⟨lw_p7, List.forall_mem_cons.mpr ⟨lw_p8, List.forall_mem_cons.mpr ⟨lw_p9, List.forall_mem_cons.mpr ⟨lw_p10, List.forall_mem_cons.mpr ⟨lw_p11, List.forall_mem_cons.mpr ⟨lw_p12, List.forall_mem_cons.mpr ⟨lw_p13, List.forall_mem_cons.mpr ⟨lw_p14, List.forall_mem_cons.mpr ⟨lw_p15, fun _ h => absurd h List.not_mem_nil⟩⟩⟩⟩⟩⟩⟩⟩⟩⟩⟩⟩⟩⟩⟩⟩
theorem lw_p16 : lw_okq (⟨"EasyToHard$Rows", "isHopeless", "(I)Z"⟩, 16) := ⟨⟨by decide +kernel, by decide +kernel⟩, List.mem_of_getElem? (i := 103) (by decide +kernel), List.mem_of_getElem? (i := 498) (by decide +kernel), List.mem_of_getElem? (i := 499) (by decide +kernel)⟩
theorem lw_p17 : lw_okq (⟨"EasyToHard$Rows", "judge", "(I)V"⟩, 16) := ⟨⟨by decide +kernel, by decide +kernel⟩, List.mem_of_getElem? (i := 103) (by decide +kernel), List.mem_of_getElem? (i := 502) (by decide +kernel), List.mem_of_getElem? (i := 503) (by decide +kernel)⟩
theorem lw_p18 : lw_okq (⟨"EasyToHard$Answers", "standing", "(I[I)I"⟩, 12) := ⟨⟨by decide +kernel, by decide +kernel⟩, List.mem_of_getElem? (i := 23) (by decide +kernel), List.mem_of_getElem? (i := 518) (by decide +kernel), List.mem_of_getElem? (i := 519) (by decide +kernel)⟩
theorem lw_p19 : lw_okq (⟨"EasyToHard", "isRow", "(LEasyToHard$Sheet;)Z"⟩, 9) := ⟨⟨by decide +kernel, by decide +kernel⟩, List.mem_of_getElem? (i := 15) (by decide +kernel), List.mem_of_getElem? (i := 532) (by decide +kernel), List.mem_of_getElem? (i := 533) (by decide +kernel)⟩
theorem lw_p20 : lw_okq (⟨"EasyToHard$Rows", "turn", "(I)V"⟩, 16) := ⟨⟨by decide +kernel, by decide +kernel⟩, List.mem_of_getElem? (i := 103) (by decide +kernel), List.mem_of_getElem? (i := 577) (by decide +kernel), List.mem_of_getElem? (i := 578) (by decide +kernel)⟩
theorem lw_p21 : lw_okq (⟨"EasyToHard", "findStates", "()V"⟩, 9) := ⟨⟨by decide +kernel, by decide +kernel⟩, List.mem_of_getElem? (i := 15) (by decide +kernel), List.mem_of_getElem? (i := 589) (by decide +kernel), List.mem_of_getElem? (i := 590) (by decide +kernel)⟩
theorem lw_p22 : lw_okq (⟨"EasyToHard$States", "holdsNeeds", "(I)Z"⟩, 8) := ⟨⟨by decide +kernel, by decide +kernel⟩, List.mem_of_getElem? (i := 163) (by decide +kernel), List.mem_of_getElem? (i := 601) (by decide +kernel), List.mem_of_getElem? (i := 602) (by decide +kernel)⟩
theorem lw_p23 : lw_okq (⟨"EasyToHard", "stateOf", "(I)I"⟩, 9) := ⟨⟨by decide +kernel, by decide +kernel⟩, List.mem_of_getElem? (i := 15) (by decide +kernel), List.mem_of_getElem? (i := 609) (by decide +kernel), List.mem_of_getElem? (i := 610) (by decide +kernel)⟩
theorem lw_p24 : lw_okq (⟨"EasyToHard", "statesWithErrors", "(II)I"⟩, 9) := ⟨⟨by decide +kernel, by decide +kernel⟩, List.mem_of_getElem? (i := 15) (by decide +kernel), List.mem_of_getElem? (i := 613) (by decide +kernel), List.mem_of_getElem? (i := 614) (by decide +kernel)⟩
theorem lw_p25 : lw_okq (⟨"EasyToHard$Asking", "note", "(II)V"⟩, 3) := ⟨⟨by decide +kernel, by decide +kernel⟩, List.mem_of_getElem? (i := 206) (by decide +kernel), List.mem_of_getElem? (i := 648) (by decide +kernel), List.mem_of_getElem? (i := 649) (by decide +kernel)⟩
theorem lw_p26 : lw_okq (⟨"EasyToHard$Asking", "suffices", "(II)Z"⟩, 3) := ⟨⟨by decide +kernel, by decide +kernel⟩, List.mem_of_getElem? (i := 206) (by decide +kernel), List.mem_of_getElem? (i := 657) (by decide +kernel), List.mem_of_getElem? (i := 658) (by decide +kernel)⟩
theorem lw_p27 : lw_okq (⟨"EasyToHard$Asking", "splitsWell", "(III)Z"⟩, 3) := ⟨⟨by decide +kernel, by decide +kernel⟩, List.mem_of_getElem? (i := 206) (by decide +kernel), List.mem_of_getElem? (i := 662) (by decide +kernel), List.mem_of_getElem? (i := 663) (by decide +kernel)⟩
theorem lw_p28 : lw_okq (⟨"EasyToHard$Plan", "teach", "(IILEasyToHard$States;)V"⟩, 6) := ⟨⟨by decide +kernel, by decide +kernel⟩, List.mem_of_getElem? (i := 222) (by decide +kernel), List.mem_of_getElem? (i := 715) (by decide +kernel), List.mem_of_getElem? (i := 716) (by decide +kernel)⟩
theorem lw_p29 : lw_okq (⟨"EasyToHard$Plan", "judge", "(I)V"⟩, 6) := ⟨⟨by decide +kernel, by decide +kernel⟩, List.mem_of_getElem? (i := 222) (by decide +kernel), List.mem_of_getElem? (i := 719) (by decide +kernel), List.mem_of_getElem? (i := 720) (by decide +kernel)⟩
theorem lw_p30 : lw_okq (⟨"EasyToHard$Plan", "lesson", "(IILEasyToHard$States;)I"⟩, 6) := ⟨⟨by decide +kernel, by decide +kernel⟩, List.mem_of_getElem? (i := 222) (by decide +kernel), List.mem_of_getElem? (i := 726) (by decide +kernel), List.mem_of_getElem? (i := 727) (by decide +kernel)⟩
theorem lw_p31 : lw_okq (⟨"EasyToHard", "joinPupil", "(JI)J"⟩, 9) := ⟨⟨by decide +kernel, by decide +kernel⟩, List.mem_of_getElem? (i := 15) (by decide +kernel), List.mem_of_getElem? (i := 797) (by decide +kernel), List.mem_of_getElem? (i := 798) (by decide +kernel)⟩
def lw_privs_2 : List (MethodName × Nat) := [(⟨"EasyToHard$Rows", "isHopeless", "(I)Z"⟩, 16), (⟨"EasyToHard$Rows", "judge", "(I)V"⟩, 16), (⟨"EasyToHard$Answers", "standing", "(I[I)I"⟩, 12), (⟨"EasyToHard", "isRow", "(LEasyToHard$Sheet;)Z"⟩, 9), (⟨"EasyToHard$Rows", "turn", "(I)V"⟩, 16), (⟨"EasyToHard", "findStates", "()V"⟩, 9), (⟨"EasyToHard$States", "holdsNeeds", "(I)Z"⟩, 8), (⟨"EasyToHard", "stateOf", "(I)I"⟩, 9), (⟨"EasyToHard", "statesWithErrors", "(II)I"⟩, 9), (⟨"EasyToHard$Asking", "note", "(II)V"⟩, 3), (⟨"EasyToHard$Asking", "suffices", "(II)Z"⟩, 3), (⟨"EasyToHard$Asking", "splitsWell", "(III)Z"⟩, 3), (⟨"EasyToHard$Plan", "teach", "(IILEasyToHard$States;)V"⟩, 6), (⟨"EasyToHard$Plan", "judge", "(I)V"⟩, 6), (⟨"EasyToHard$Plan", "lesson", "(IILEasyToHard$States;)I"⟩, 6), (⟨"EasyToHard", "joinPupil", "(JI)J"⟩, 9)]
theorem lw_r2 : ∀ q ∈ lw_privs_2, lw_okq q := List.forall_mem_cons.mpr ⟨lw_p16, List.forall_mem_cons.mpr ⟨lw_p17, List.forall_mem_cons.mpr ⟨lw_p18, List.forall_mem_cons.mpr ⟨lw_p19, List.forall_mem_cons.mpr ⟨lw_p20, List.forall_mem_cons.mpr ⟨lw_p21, List.forall_mem_cons.mpr ⟨lw_p22, List.forall_mem_cons.mpr ⟨lw_p23, List.forall_mem_cons.mpr ⟨lw_p24, List.forall_mem_cons.mpr ⟨lw_p25, List.forall_mem_cons.mpr ⟨lw_p26, List.forall_mem_cons.mpr ⟨lw_p27, List.forall_mem_cons.mpr ⟨lw_p28, List.forall_mem_cons.mpr ⟨lw_p29, List.forall_mem_cons.mpr ⟨lw_p30, List.forall_mem_cons.mpr ⟨lw_p31, fun _ h => absurd h List.not_mem_nil⟩⟩⟩⟩⟩⟩⟩⟩⟩⟩⟩⟩⟩⟩⟩⟩
theorem lw_p32 : lw_okq (⟨"EasyToHard", "joinQuestion", "(JI)J"⟩, 9) := ⟨⟨by decide +kernel, by decide +kernel⟩, List.mem_of_getElem? (i := 15) (by decide +kernel), List.mem_of_getElem? (i := 805) (by decide +kernel), List.mem_of_getElem? (i := 806) (by decide +kernel)⟩
theorem lw_p33 : lw_okq (⟨"EasyToHardModel", "met", "(I)I"⟩, 29) := ⟨⟨by decide +kernel, by decide +kernel⟩, List.mem_of_getElem? (i := 820) (by decide +kernel), List.mem_of_getElem? (i := 926) (by decide +kernel), List.mem_of_getElem? (i := 927) (by decide +kernel)⟩
theorem lw_p34 : lw_okq (⟨"EasyToHardModel", "lacks", "(III)I"⟩, 29) := ⟨⟨by decide +kernel, by decide +kernel⟩, List.mem_of_getElem? (i := 820) (by decide +kernel), List.mem_of_getElem? (i := 938) (by decide +kernel), List.mem_of_getElem? (i := 939) (by decide +kernel)⟩
theorem lw_p35 : lw_okq (⟨"EasyToHardModel", "isLate", "(I)Z"⟩, 29) := ⟨⟨by decide +kernel, by decide +kernel⟩, List.mem_of_getElem? (i := 820) (by decide +kernel), List.mem_of_getElem? (i := 973) (by decide +kernel), List.mem_of_getElem? (i := 974) (by decide +kernel)⟩
theorem lw_p36 : lw_okq (⟨"EasyToHardModel", "findSays", "()V"⟩, 29) := ⟨⟨by decide +kernel, by decide +kernel⟩, List.mem_of_getElem? (i := 820) (by decide +kernel), List.mem_of_getElem? (i := 987) (by decide +kernel), List.mem_of_getElem? (i := 988) (by decide +kernel)⟩
theorem lw_p37 : lw_okq (⟨"EasyToHardModel", "reads", "()I"⟩, 29) := ⟨⟨by decide +kernel, by decide +kernel⟩, List.mem_of_getElem? (i := 820) (by decide +kernel), List.mem_of_getElem? (i := 1004) (by decide +kernel), List.mem_of_getElem? (i := 1005) (by decide +kernel)⟩
theorem lw_p38 : lw_okq (⟨"EasyToHardModel", "clears", "()V"⟩, 29) := ⟨⟨by decide +kernel, by decide +kernel⟩, List.mem_of_getElem? (i := 820) (by decide +kernel), List.mem_of_getElem? (i := 1008) (by decide +kernel), List.mem_of_getElem? (i := 1009) (by decide +kernel)⟩
theorem lw_p39 : lw_okq (⟨"EasyToHardModel", "readsPart", "()Z"⟩, 29) := ⟨⟨by decide +kernel, by decide +kernel⟩, List.mem_of_getElem? (i := 820) (by decide +kernel), List.mem_of_getElem? (i := 1012) (by decide +kernel), List.mem_of_getElem? (i := 1013) (by decide +kernel)⟩
theorem lw_p40 : lw_okq (⟨"EasyToHardModel", "here", "()I"⟩, 29) := ⟨⟨by decide +kernel, by decide +kernel⟩, List.mem_of_getElem? (i := 820) (by decide +kernel), List.mem_of_getElem? (i := 1016) (by decide +kernel), List.mem_of_getElem? (i := 1017) (by decide +kernel)⟩
theorem lw_p41 : lw_okq (⟨"EasyToHardModel", "takes", "(I)Z"⟩, 29) := ⟨⟨by decide +kernel, by decide +kernel⟩, List.mem_of_getElem? (i := 820) (by decide +kernel), List.mem_of_getElem? (i := 1020) (by decide +kernel), List.mem_of_getElem? (i := 1021) (by decide +kernel)⟩
theorem lw_p42 : lw_okq (⟨"EasyToHardModel", "ahead", "(I)I"⟩, 29) := ⟨⟨by decide +kernel, by decide +kernel⟩, List.mem_of_getElem? (i := 820) (by decide +kernel), List.mem_of_getElem? (i := 1024) (by decide +kernel), List.mem_of_getElem? (i := 1025) (by decide +kernel)⟩
theorem lw_p43 : lw_okq (⟨"EasyToHardModel", "isQuestion", "(I)Z"⟩, 29) := ⟨⟨by decide +kernel, by decide +kernel⟩, List.mem_of_getElem? (i := 820) (by decide +kernel), List.mem_of_getElem? (i := 1035) (by decide +kernel), List.mem_of_getElem? (i := 1036) (by decide +kernel)⟩
theorem lw_p44 : lw_okq (⟨"EasyToHardModel", "n", "()I"⟩, 29) := ⟨⟨by decide +kernel, by decide +kernel⟩, List.mem_of_getElem? (i := 820) (by decide +kernel), List.mem_of_getElem? (i := 1039) (by decide +kernel), List.mem_of_getElem? (i := 1040) (by decide +kernel)⟩
theorem lw_p45 : lw_okq (⟨"EasyToHardModel", "find", "()V"⟩, 29) := ⟨⟨by decide +kernel, by decide +kernel⟩, List.mem_of_getElem? (i := 820) (by decide +kernel), List.mem_of_getElem? (i := 1046) (by decide +kernel), List.mem_of_getElem? (i := 1047) (by decide +kernel)⟩
theorem lw_p46 : lw_okq (⟨"EasyToHardModel", "isNeeded", "(III)Z"⟩, 29) := ⟨⟨by decide +kernel, by decide +kernel⟩, List.mem_of_getElem? (i := 820) (by decide +kernel), List.mem_of_getElem? (i := 1050) (by decide +kernel), List.mem_of_getElem? (i := 1051) (by decide +kernel)⟩
theorem lw_p47 : lw_okq (⟨"EasyToHardModel", "isFound", "(II)Z"⟩, 29) := ⟨⟨by decide +kernel, by decide +kernel⟩, List.mem_of_getElem? (i := 820) (by decide +kernel), List.mem_of_getElem? (i := 1054) (by decide +kernel), List.mem_of_getElem? (i := 1055) (by decide +kernel)⟩
def lw_privs_3 : List (MethodName × Nat) := [(⟨"EasyToHard", "joinQuestion", "(JI)J"⟩, 9), (⟨"EasyToHardModel", "met", "(I)I"⟩, 29), (⟨"EasyToHardModel", "lacks", "(III)I"⟩, 29), (⟨"EasyToHardModel", "isLate", "(I)Z"⟩, 29), (⟨"EasyToHardModel", "findSays", "()V"⟩, 29), (⟨"EasyToHardModel", "reads", "()I"⟩, 29), (⟨"EasyToHardModel", "clears", "()V"⟩, 29), (⟨"EasyToHardModel", "readsPart", "()Z"⟩, 29), (⟨"EasyToHardModel", "here", "()I"⟩, 29), (⟨"EasyToHardModel", "takes", "(I)Z"⟩, 29), (⟨"EasyToHardModel", "ahead", "(I)I"⟩, 29), (⟨"EasyToHardModel", "isQuestion", "(I)Z"⟩, 29), (⟨"EasyToHardModel", "n", "()I"⟩, 29), (⟨"EasyToHardModel", "find", "()V"⟩, 29), (⟨"EasyToHardModel", "isNeeded", "(III)Z"⟩, 29), (⟨"EasyToHardModel", "isFound", "(II)Z"⟩, 29)]
theorem lw_r3 : ∀ q ∈ lw_privs_3, lw_okq q := List.forall_mem_cons.mpr ⟨lw_p32, List.forall_mem_cons.mpr ⟨lw_p33, List.forall_mem_cons.mpr ⟨lw_p34, List.forall_mem_cons.mpr ⟨lw_p35, List.forall_mem_cons.mpr ⟨lw_p36, List.forall_mem_cons.mpr ⟨lw_p37, List.forall_mem_cons.mpr ⟨lw_p38, List.forall_mem_cons.mpr ⟨lw_p39, List.forall_mem_cons.mpr ⟨lw_p40, List.forall_mem_cons.mpr ⟨lw_p41, List.forall_mem_cons.mpr ⟨lw_p42, List.forall_mem_cons.mpr ⟨lw_p43, List.forall_mem_cons.mpr ⟨lw_p44, List.forall_mem_cons.mpr ⟨lw_p45, List.forall_mem_cons.mpr ⟨lw_p46, List.forall_mem_cons.mpr ⟨lw_p47, fun _ h => absurd h List.not_mem_nil⟩⟩⟩⟩⟩⟩⟩⟩⟩⟩⟩⟩⟩⟩⟩⟩
theorem lw_p48 : lw_okq (⟨"EasyToHardModel", "errorsOf", "(II)I"⟩, 29) := ⟨⟨by decide +kernel, by decide +kernel⟩, List.mem_of_getElem? (i := 820) (by decide +kernel), List.mem_of_getElem? (i := 1063) (by decide +kernel), List.mem_of_getElem? (i := 1064) (by decide +kernel)⟩
theorem lw_p49 : lw_okq (⟨"EasyToHardModel", "bits", "(II)I"⟩, 29) := ⟨⟨by decide +kernel, by decide +kernel⟩, List.mem_of_getElem? (i := 820) (by decide +kernel), List.mem_of_getElem? (i := 1067) (by decide +kernel), List.mem_of_getElem? (i := 1068) (by decide +kernel)⟩
theorem lw_p50 : lw_okq (⟨"EasyToHardModel", "findBest", "()V"⟩, 29) := ⟨⟨by decide +kernel, by decide +kernel⟩, List.mem_of_getElem? (i := 820) (by decide +kernel), List.mem_of_getElem? (i := 1078) (by decide +kernel), List.mem_of_getElem? (i := 1079) (by decide +kernel)⟩
theorem lw_p51 : lw_okq (⟨"EasyToHardModel", "findOrder", "(II)V"⟩, 29) := ⟨⟨by decide +kernel, by decide +kernel⟩, List.mem_of_getElem? (i := 820) (by decide +kernel), List.mem_of_getElem? (i := 1082) (by decide +kernel), List.mem_of_getElem? (i := 1083) (by decide +kernel)⟩
theorem lw_p52 : lw_okq (⟨"EasyToHardModel", "findWrong", "(II)V"⟩, 29) := ⟨⟨by decide +kernel, by decide +kernel⟩, List.mem_of_getElem? (i := 820) (by decide +kernel), List.mem_of_getElem? (i := 1086) (by decide +kernel), List.mem_of_getElem? (i := 1087) (by decide +kernel)⟩
theorem lw_p53 : lw_okq (⟨"EasyToHardModel", "offNow", "(I)I"⟩, 29) := ⟨⟨by decide +kernel, by decide +kernel⟩, List.mem_of_getElem? (i := 820) (by decide +kernel), List.mem_of_getElem? (i := 1090) (by decide +kernel), List.mem_of_getElem? (i := 1091) (by decide +kernel)⟩
theorem lw_p54 : lw_okq (⟨"EasyToHardModel", "goesOn", "(I)Z"⟩, 29) := ⟨⟨by decide +kernel, by decide +kernel⟩, List.mem_of_getElem? (i := 820) (by decide +kernel), List.mem_of_getElem? (i := 1094) (by decide +kernel), List.mem_of_getElem? (i := 1095) (by decide +kernel)⟩
theorem lw_p55 : lw_okq (⟨"EasyToHardModel", "swaps", "(II)V"⟩, 29) := ⟨⟨by decide +kernel, by decide +kernel⟩, List.mem_of_getElem? (i := 820) (by decide +kernel), List.mem_of_getElem? (i := 1098) (by decide +kernel), List.mem_of_getElem? (i := 1099) (by decide +kernel)⟩
theorem lw_p56 : lw_okq (⟨"EasyToHardModel", "stepOf", "(II)I"⟩, 29) := ⟨⟨by decide +kernel, by decide +kernel⟩, List.mem_of_getElem? (i := 820) (by decide +kernel), List.mem_of_getElem? (i := 1110) (by decide +kernel), List.mem_of_getElem? (i := 1111) (by decide +kernel)⟩
theorem lw_p57 : lw_okq (⟨"EasyToHardModel", "whole", "()I"⟩, 29) := ⟨⟨by decide +kernel, by decide +kernel⟩, List.mem_of_getElem? (i := 820) (by decide +kernel), List.mem_of_getElem? (i := 1118) (by decide +kernel), List.mem_of_getElem? (i := 1119) (by decide +kernel)⟩
theorem lw_p58 : lw_okq (⟨"EasyToHardModel", "fitOf", "(II)J"⟩, 29) := ⟨⟨by decide +kernel, by decide +kernel⟩, List.mem_of_getElem? (i := 820) (by decide +kernel), List.mem_of_getElem? (i := 1126) (by decide +kernel), List.mem_of_getElem? (i := 1127) (by decide +kernel)⟩
theorem lw_p59 : lw_okq (⟨"EasyToHardModel", "allAnswers", "(I)I"⟩, 29) := ⟨⟨by decide +kernel, by decide +kernel⟩, List.mem_of_getElem? (i := 820) (by decide +kernel), List.mem_of_getElem? (i := 1130) (by decide +kernel), List.mem_of_getElem? (i := 1131) (by decide +kernel)⟩
theorem lw_p60 : lw_okq (⟨"EasyToHardModel", "shares", "()I"⟩, 29) := ⟨⟨by decide +kernel, by decide +kernel⟩, List.mem_of_getElem? (i := 820) (by decide +kernel), List.mem_of_getElem? (i := 1138) (by decide +kernel), List.mem_of_getElem? (i := 1139) (by decide +kernel)⟩
theorem lw_p61 : lw_okq (⟨"EasyToHardModel", "oddNow", "()I"⟩, 29) := ⟨⟨by decide +kernel, by decide +kernel⟩, List.mem_of_getElem? (i := 820) (by decide +kernel), List.mem_of_getElem? (i := 1149) (by decide +kernel), List.mem_of_getElem? (i := 1150) (by decide +kernel)⟩
theorem lw_p62 : lw_okq (⟨"EasyToHardModel", "withoutOf", "(II)I"⟩, 29) := ⟨⟨by decide +kernel, by decide +kernel⟩, List.mem_of_getElem? (i := 820) (by decide +kernel), List.mem_of_getElem? (i := 1157) (by decide +kernel), List.mem_of_getElem? (i := 1158) (by decide +kernel)⟩
theorem lw_p63 : lw_okq (⟨"EasyToHardModel", "worstOf", "(I)I"⟩, 29) := ⟨⟨by decide +kernel, by decide +kernel⟩, List.mem_of_getElem? (i := 820) (by decide +kernel), List.mem_of_getElem? (i := 1165) (by decide +kernel), List.mem_of_getElem? (i := 1166) (by decide +kernel)⟩
def lw_privs_4 : List (MethodName × Nat) := [(⟨"EasyToHardModel", "errorsOf", "(II)I"⟩, 29), (⟨"EasyToHardModel", "bits", "(II)I"⟩, 29), (⟨"EasyToHardModel", "findBest", "()V"⟩, 29), (⟨"EasyToHardModel", "findOrder", "(II)V"⟩, 29), (⟨"EasyToHardModel", "findWrong", "(II)V"⟩, 29), (⟨"EasyToHardModel", "offNow", "(I)I"⟩, 29), (⟨"EasyToHardModel", "goesOn", "(I)Z"⟩, 29), (⟨"EasyToHardModel", "swaps", "(II)V"⟩, 29), (⟨"EasyToHardModel", "stepOf", "(II)I"⟩, 29), (⟨"EasyToHardModel", "whole", "()I"⟩, 29), (⟨"EasyToHardModel", "fitOf", "(II)J"⟩, 29), (⟨"EasyToHardModel", "allAnswers", "(I)I"⟩, 29), (⟨"EasyToHardModel", "shares", "()I"⟩, 29), (⟨"EasyToHardModel", "oddNow", "()I"⟩, 29), (⟨"EasyToHardModel", "withoutOf", "(II)I"⟩, 29), (⟨"EasyToHardModel", "worstOf", "(I)I"⟩, 29)]
theorem lw_r4 : ∀ q ∈ lw_privs_4, lw_okq q := List.forall_mem_cons.mpr ⟨lw_p48, List.forall_mem_cons.mpr ⟨lw_p49, List.forall_mem_cons.mpr ⟨lw_p50, List.forall_mem_cons.mpr ⟨lw_p51, List.forall_mem_cons.mpr ⟨lw_p52, List.forall_mem_cons.mpr ⟨lw_p53, List.forall_mem_cons.mpr ⟨lw_p54, List.forall_mem_cons.mpr ⟨lw_p55, List.forall_mem_cons.mpr ⟨lw_p56, List.forall_mem_cons.mpr ⟨lw_p57, List.forall_mem_cons.mpr ⟨lw_p58, List.forall_mem_cons.mpr ⟨lw_p59, List.forall_mem_cons.mpr ⟨lw_p60, List.forall_mem_cons.mpr ⟨lw_p61, List.forall_mem_cons.mpr ⟨lw_p62, List.forall_mem_cons.mpr ⟨lw_p63, fun _ h => absurd h List.not_mem_nil⟩⟩⟩⟩⟩⟩⟩⟩⟩⟩⟩⟩⟩⟩⟩⟩
theorem lw_p64 : lw_okq (⟨"EasyToHardModel", "statesOf", "(I)I"⟩, 29) := ⟨⟨by decide +kernel, by decide +kernel⟩, List.mem_of_getElem? (i := 820) (by decide +kernel), List.mem_of_getElem? (i := 1173) (by decide +kernel), List.mem_of_getElem? (i := 1174) (by decide +kernel)⟩
theorem lw_p65 : lw_okq (⟨"EasyToHardModel", "findNeeds", "()V"⟩, 29) := ⟨⟨by decide +kernel, by decide +kernel⟩, List.mem_of_getElem? (i := 820) (by decide +kernel), List.mem_of_getElem? (i := 1177) (by decide +kernel), List.mem_of_getElem? (i := 1178) (by decide +kernel)⟩
theorem lw_p66 : lw_okq (⟨"EasyToHardModel", "isState", "(I)Z"⟩, 29) := ⟨⟨by decide +kernel, by decide +kernel⟩, List.mem_of_getElem? (i := 820) (by decide +kernel), List.mem_of_getElem? (i := 1181) (by decide +kernel), List.mem_of_getElem? (i := 1182) (by decide +kernel)⟩
theorem lw_p67 : lw_okq (⟨"EasyToHardModel", "belongsOf", "(II)I"⟩, 29) := ⟨⟨by decide +kernel, by decide +kernel⟩, List.mem_of_getElem? (i := 820) (by decide +kernel), List.mem_of_getElem? (i := 1189) (by decide +kernel), List.mem_of_getElem? (i := 1190) (by decide +kernel)⟩
theorem lw_p68 : lw_okq (⟨"EasyToHardModel", "pathsNow", "()I"⟩, 29) := ⟨⟨by decide +kernel, by decide +kernel⟩, List.mem_of_getElem? (i := 820) (by decide +kernel), List.mem_of_getElem? (i := 1201) (by decide +kernel), List.mem_of_getElem? (i := 1202) (by decide +kernel)⟩
theorem lw_p69 : lw_okq (⟨"EasyToHardModel", "deepOf", "(I)I"⟩, 29) := ⟨⟨by decide +kernel, by decide +kernel⟩, List.mem_of_getElem? (i := 820) (by decide +kernel), List.mem_of_getElem? (i := 1209) (by decide +kernel), List.mem_of_getElem? (i := 1210) (by decide +kernel)⟩
theorem lw_p70 : lw_okq (⟨"EasyToHardModel", "sureOf", "(III)I"⟩, 29) := ⟨⟨by decide +kernel, by decide +kernel⟩, List.mem_of_getElem? (i := 820) (by decide +kernel), List.mem_of_getElem? (i := 1217) (by decide +kernel), List.mem_of_getElem? (i := 1218) (by decide +kernel)⟩
theorem lw_p71 : lw_okq (⟨"EasyToHardModel", "byAsking", "(II)I"⟩, 29) := ⟨⟨by decide +kernel, by decide +kernel⟩, List.mem_of_getElem? (i := 820) (by decide +kernel), List.mem_of_getElem? (i := 1221) (by decide +kernel), List.mem_of_getElem? (i := 1222) (by decide +kernel)⟩
theorem lw_p72 : lw_okq (⟨"EasyToHardModel", "chanceAbove", "(IIII)J"⟩, 29) := ⟨⟨by decide +kernel, by decide +kernel⟩, List.mem_of_getElem? (i := 820) (by decide +kernel), List.mem_of_getElem? (i := 1233) (by decide +kernel), List.mem_of_getElem? (i := 1234) (by decide +kernel)⟩
theorem lw_p73 : lw_okq (⟨"EasyToHardModel", "likeliestOf", "(III)I"⟩, 29) := ⟨⟨by decide +kernel, by decide +kernel⟩, List.mem_of_getElem? (i := 820) (by decide +kernel), List.mem_of_getElem? (i := 1245) (by decide +kernel), List.mem_of_getElem? (i := 1246) (by decide +kernel)⟩
theorem lw_p74 : lw_okq (⟨"EasyToHardModel", "lessonsOf", "(II)I"⟩, 29) := ⟨⟨by decide +kernel, by decide +kernel⟩, List.mem_of_getElem? (i := 820) (by decide +kernel), List.mem_of_getElem? (i := 1255) (by decide +kernel), List.mem_of_getElem? (i := 1256) (by decide +kernel)⟩
theorem lw_p75 : lw_okq (⟨"EasyToHardModel", "isSome", "(I)Z"⟩, 29) := ⟨⟨by decide +kernel, by decide +kernel⟩, List.mem_of_getElem? (i := 820) (by decide +kernel), List.mem_of_getElem? (i := 1259) (by decide +kernel), List.mem_of_getElem? (i := 1260) (by decide +kernel)⟩
theorem lw_p76 : lw_okq (⟨"EasyToHardModel", "learnt", "(II)I"⟩, 29) := ⟨⟨by decide +kernel, by decide +kernel⟩, List.mem_of_getElem? (i := 820) (by decide +kernel), List.mem_of_getElem? (i := 1266) (by decide +kernel), List.mem_of_getElem? (i := 1267) (by decide +kernel)⟩
theorem lw_p77 : lw_okq (⟨"EasyToHardModel", "pupilsWith", "()I"⟩, 29) := ⟨⟨by decide +kernel, by decide +kernel⟩, List.mem_of_getElem? (i := 820) (by decide +kernel), List.mem_of_getElem? (i := 1278) (by decide +kernel), List.mem_of_getElem? (i := 1279) (by decide +kernel)⟩
def lw_privs_5 : List (MethodName × Nat) := [(⟨"EasyToHardModel", "statesOf", "(I)I"⟩, 29), (⟨"EasyToHardModel", "findNeeds", "()V"⟩, 29), (⟨"EasyToHardModel", "isState", "(I)Z"⟩, 29), (⟨"EasyToHardModel", "belongsOf", "(II)I"⟩, 29), (⟨"EasyToHardModel", "pathsNow", "()I"⟩, 29), (⟨"EasyToHardModel", "deepOf", "(I)I"⟩, 29), (⟨"EasyToHardModel", "sureOf", "(III)I"⟩, 29), (⟨"EasyToHardModel", "byAsking", "(II)I"⟩, 29), (⟨"EasyToHardModel", "chanceAbove", "(IIII)J"⟩, 29), (⟨"EasyToHardModel", "likeliestOf", "(III)I"⟩, 29), (⟨"EasyToHardModel", "lessonsOf", "(II)I"⟩, 29), (⟨"EasyToHardModel", "isSome", "(I)Z"⟩, 29), (⟨"EasyToHardModel", "learnt", "(II)I"⟩, 29), (⟨"EasyToHardModel", "pupilsWith", "()I"⟩, 29)]
theorem lw_r5 : ∀ q ∈ lw_privs_5, lw_okq q := List.forall_mem_cons.mpr ⟨lw_p64, List.forall_mem_cons.mpr ⟨lw_p65, List.forall_mem_cons.mpr ⟨lw_p66, List.forall_mem_cons.mpr ⟨lw_p67, List.forall_mem_cons.mpr ⟨lw_p68, List.forall_mem_cons.mpr ⟨lw_p69, List.forall_mem_cons.mpr ⟨lw_p70, List.forall_mem_cons.mpr ⟨lw_p71, List.forall_mem_cons.mpr ⟨lw_p72, List.forall_mem_cons.mpr ⟨lw_p73, List.forall_mem_cons.mpr ⟨lw_p74, List.forall_mem_cons.mpr ⟨lw_p75, List.forall_mem_cons.mpr ⟨lw_p76, List.forall_mem_cons.mpr ⟨lw_p77, fun _ h => absurd h List.not_mem_nil⟩⟩⟩⟩⟩⟩⟩⟩⟩⟩⟩⟩⟩⟩
def lw_privs : List (MethodName × Nat) := lw_privs_1 ++ (lw_privs_2 ++ (lw_privs_3 ++ (lw_privs_4 ++ (lw_privs_5))))
def lw_tbl : List Cond := k2_sels lw_privs ++ tables_1
theorem lw_privs_ok : ∀ q ∈ lw_privs, lw_okq q := by
  show ∀ q ∈ lw_privs_1 ++ (lw_privs_2 ++ (lw_privs_3 ++ (lw_privs_4 ++ (lw_privs_5)))), lw_okq q
  exact List.forall_mem_append.mpr ⟨lw_r1, List.forall_mem_append.mpr ⟨lw_r2, List.forall_mem_append.mpr ⟨lw_r3, List.forall_mem_append.mpr ⟨lw_r4, lw_r5⟩⟩⟩⟩
-- ===== end of PART A; then your names; then what follows =====
end
section
def RX0 : String := "EasyToHard$Answers"
def TX0 : u_T := fun k => match k with
  | 0 => ("EasyToHard$Answers", "pupils", "[B", true)
  | 1 => ("EasyToHard$Answers", "questions", "[B", true)
  | 2 => ("EasyToHard$Answers", "values", "[B", true)
  | 3 => ("EasyToHard$Answers", "times", "[S", true)
  | 4 => ("EasyToHard$Answers", "yes", "[I", true)
  | 5 => ("EasyToHard$Answers", "no", "[I", true)
  | 6 => ("EasyToHard$Answers", "whoYes", "[I", true)
  | 7 => ("EasyToHard$Answers", "whoNo", "[I", true)
  | 8 => ("EasyToHard$Answers", "told", "I", false)
  | 9 => ("EasyToHard$Answers", "n", "I", false)
  | 10 => ("EasyToHard$Answers", "all", "I", false)
  | _ => ("EasyToHard$Answers", "asOf", "I", false)
def tyX0 : Nat → FieldType := fun k => match k with
  | 0 => .array .byte
  | 1 => .array .byte
  | 2 => .array .byte
  | 3 => .array .short
  | 4 => .array .int
  | 5 => .array .int
  | 6 => .array .int
  | 7 => .array .int
  | 8 => .int
  | 9 => .int
  | 10 => .int
  | _ => .int
abbrev wsX00 : List Cond := u_ws RX0 TX0 12
theorem nmX0 : ∀ a, a < 12 → ∀ b, b < 12 → a ≠ b → (TX0 a).2.1 ≠ (TX0 b).2.1 := by decide +kernel
theorem tyX0_ok : ∀ k, k < 12 → parseFieldDescriptor (TX0 k).2.2.1 = some (tyX0 k) := by decide +kernel
abbrev cX0_init : ByteArray := prog_2_method_1_code
def yX0_init : MethodName := ⟨RX0, "<init>", "()V"⟩
abbrev cX0_isFull : ByteArray := prog_2_method_2_code
def yX0_isFull : MethodName := ⟨RX0, "isFull", "()Z"⟩
abbrev cX0_timeFits : ByteArray := prog_2_method_3_code
def yX0_timeFits : MethodName := ⟨RX0, "timeFits", "(I)Z"⟩
abbrev cX0_tell : ByteArray := prog_2_method_4_code
def yX0_tell : MethodName := ⟨RX0, "tell", "(IIII)V"⟩
abbrev cX0_countAnew : ByteArray := prog_2_method_5_code
def yX0_countAnew : MethodName := ⟨RX0, "countAnew", "(II)V"⟩
abbrev cX0_hear : ByteArray := prog_2_method_6_code
def yX0_hear : MethodName := ⟨RX0, "hear", "(III)V"⟩
abbrev cX0_withBit : ByteArray := prog_2_method_7_code
def yX0_withBit : MethodName := ⟨RX0, "withBit", "(IIZ)I"⟩
abbrev cX0_heard : ByteArray := prog_2_method_8_code
def yX0_heard : MethodName := ⟨RX0, "heard", "(II)I"⟩
abbrev cX0_yesOf : ByteArray := prog_2_method_9_code
def yX0_yesOf : MethodName := ⟨RX0, "yesOf", "(I)I"⟩
abbrev cX0_noOf : ByteArray := prog_2_method_10_code
def yX0_noOf : MethodName := ⟨RX0, "noOf", "(I)I"⟩
abbrev cX0_given : ByteArray := prog_2_method_11_code
def yX0_given : MethodName := ⟨RX0, "given", "(I)I"⟩
abbrev cX0_givenByAll : ByteArray := prog_2_method_12_code
def yX0_givenByAll : MethodName := ⟨RX0, "givenByAll", "()I"⟩
abbrev cX0_yesByAll : ByteArray := prog_2_method_13_code
def yX0_yesByAll : MethodName := ⟨RX0, "yesByAll", "()I"⟩
abbrev cX0_pupilsWithSome : ByteArray := prog_2_method_14_code
def yX0_pupilsWithSome : MethodName := ⟨RX0, "pupilsWithSome", "()I"⟩
abbrev cX0_largerShares : ByteArray := prog_2_method_15_code
def yX0_largerShares : MethodName := ⟨RX0, "largerShares", "()I"⟩
abbrev cX0_foundFor : ByteArray := prog_2_method_16_code
def yX0_foundFor : MethodName := ⟨RX0, "foundFor", "(II)I"⟩
abbrev cX0_errorsWith : ByteArray := prog_2_method_17_code
def yX0_errorsWith : MethodName := ⟨RX0, "errorsWith", "(II)I"⟩
abbrev cX0_offIn : ByteArray := prog_2_method_18_code
def yX0_offIn : MethodName := ⟨RX0, "offIn", "(I[I)I"⟩
abbrev cX0_stepIn : ByteArray := prog_2_method_19_code
def yX0_stepIn : MethodName := ⟨RX0, "stepIn", "(I[I)I"⟩
abbrev cX0_standing : ByteArray := prog_2_method_20_code
def yX0_standing : MethodName := ⟨RX0, "standing", "(I[I)I"⟩
abbrev cX0_chanceAbove : ByteArray := prog_2_method_21_code
def yX0_chanceAbove : MethodName := ⟨RX0, "chanceAbove", "(IIII)J"⟩
abbrev cX0_chanceBelow : ByteArray := prog_2_method_22_code
def yX0_chanceBelow : MethodName := ⟨RX0, "chanceBelow", "(I)J"⟩
abbrev cX0_power : ByteArray := prog_2_method_23_code
def yX0_power : MethodName := ⟨RX0, "power", "(JI)J"⟩
def RX1 : String := "EasyToHard$Asking"
def TX1 : u_T := fun k => match k with
  | 0 => ("EasyToHard$Asking", "having", "[I", true)
  | 1 => ("EasyToHard$Asking", "n", "I", false)
  | _ => ("EasyToHard$Asking", "possible", "I", false)
def tyX1 : Nat → FieldType := fun k => match k with
  | 0 => .array .int
  | 1 => .int
  | _ => .int
abbrev wsX10 : List Cond := u_ws RX1 TX1 3
theorem nmX1 : ∀ a, a < 3 → ∀ b, b < 3 → a ≠ b → (TX1 a).2.1 ≠ (TX1 b).2.1 := by decide +kernel
theorem tyX1_ok : ∀ k, k < 3 → parseFieldDescriptor (TX1 k).2.2.1 = some (tyX1 k) := by decide +kernel
abbrev cX1_init : ByteArray := prog_3_method_1_code
def yX1_init : MethodName := ⟨RX1, "<init>", "()V"⟩
abbrev cX1_begin : ByteArray := prog_3_method_2_code
def yX1_begin : MethodName := ⟨RX1, "begin", "(LEasyToHard$States;II)I"⟩
abbrev cX1_note : ByteArray := prog_3_method_3_code
def yX1_note : MethodName := ⟨RX1, "note", "(II)V"⟩
abbrev cX1_fewest : ByteArray := prog_3_method_4_code
def yX1_fewest : MethodName := ⟨RX1, "fewest", "()I"⟩
abbrev cX1_first : ByteArray := prog_3_method_5_code
def yX1_first : MethodName := ⟨RX1, "first", "(I)I"⟩
abbrev cX1_suffices : ByteArray := prog_3_method_6_code
def yX1_suffices : MethodName := ⟨RX1, "suffices", "(II)Z"⟩
abbrev cX1_splitsWell : ByteArray := prog_3_method_7_code
def yX1_splitsWell : MethodName := ⟨RX1, "splitsWell", "(III)Z"⟩
def RX2 : String := "EasyToHard$NeedsText"
def TX2 : u_T := fun k => match k with
  | 0 => ("EasyToHard$NeedsText", "bytes", "[I", true)
  | 1 => ("EasyToHard$NeedsText", "needs", "[I", true)
  | 2 => ("EasyToHard$NeedsText", "reach", "[I", true)
  | 3 => ("EasyToHard$NeedsText", "length", "I", false)
  | 4 => ("EasyToHard$NeedsText", "parts", "I", false)
  | _ => ("EasyToHard$NeedsText", "faultPlace", "I", false)
def tyX2 : Nat → FieldType := fun k => match k with
  | 0 => .array .int
  | 1 => .array .int
  | 2 => .array .int
  | 3 => .int
  | 4 => .int
  | _ => .int
abbrev wsX20 : List Cond := u_ws RX2 TX2 6
theorem nmX2 : ∀ a, a < 6 → ∀ b, b < 6 → a ≠ b → (TX2 a).2.1 ≠ (TX2 b).2.1 := by decide +kernel
theorem tyX2_ok : ∀ k, k < 6 → parseFieldDescriptor (TX2 k).2.2.1 = some (tyX2 k) := by decide +kernel
abbrev cX2_init : ByteArray := prog_4_method_1_code
def yX2_init : MethodName := ⟨RX2, "<init>", "()V"⟩
abbrev cX2_append : ByteArray := prog_4_method_2_code
def yX2_append : MethodName := ⟨RX2, "append", "(I)V"⟩
abbrev cX2_clear : ByteArray := prog_4_method_3_code
def yX2_clear : MethodName := ⟨RX2, "clear", "()V"⟩
abbrev cX2_readParts : ByteArray := prog_4_method_4_code
def yX2_readParts : MethodName := ⟨RX2, "readParts", "()V"⟩
abbrev cX2_forgetParts : ByteArray := prog_4_method_5_code
def yX2_forgetParts : MethodName := ⟨RX2, "forgetParts", "()V"⟩
abbrev cX2_firstFault : ByteArray := prog_4_method_6_code
def yX2_firstFault : MethodName := ⟨RX2, "firstFault", "()I"⟩
abbrev cX2_faultOfPart : ByteArray := prog_4_method_7_code
def yX2_faultOfPart : MethodName := ⟨RX2, "faultOfPart", "(I)I"⟩
abbrev cX2_letterAt : ByteArray := prog_4_method_8_code
def yX2_letterAt : MethodName := ⟨RX2, "letterAt", "(I)I"⟩
abbrev cX2_closesCircle : ByteArray := prog_4_method_9_code
def yX2_closesCircle : MethodName := ⟨RX2, "closesCircle", "(II)Z"⟩
abbrev cX2_tellPart : ByteArray := prog_4_method_10_code
def yX2_tellPart : MethodName := ⟨RX2, "tellPart", "(II)V"⟩
def RX3 : String := "EasyToHard$Plan"
def TX3 : u_T := fun k => match k with
  | 0 => ("EasyToHard$Plan", "has", "[[I", true)
  | 1 => ("EasyToHard$Plan", "trial", "[I", true)
  | 2 => ("EasyToHard$Plan", "best", "[I", true)
  | 3 => ("EasyToHard$Plan", "pupils", "I", false)
  | 4 => ("EasyToHard$Plan", "length", "I", false)
  | _ => ("EasyToHard$Plan", "most", "I", false)
def tyX3 : Nat → FieldType := fun k => match k with
  | 0 => .array (.array .int)
  | 1 => .array .int
  | 2 => .array .int
  | 3 => .int
  | 4 => .int
  | _ => .int
abbrev wsX30 : List Cond := u_ws RX3 TX3 6
theorem nmX3 : ∀ a, a < 6 → ∀ b, b < 6 → a ≠ b → (TX3 a).2.1 ≠ (TX3 b).2.1 := by decide +kernel
theorem tyX3_ok : ∀ k, k < 6 → parseFieldDescriptor (TX3 k).2.2.1 = some (tyX3 k) := by decide +kernel
abbrev cX3_init : ByteArray := prog_5_method_1_code
def yX3_init : MethodName := ⟨RX3, "<init>", "()V"⟩
abbrev cX3_begin : ByteArray := prog_5_method_2_code
def yX3_begin : MethodName := ⟨RX3, "begin", "()V"⟩
abbrev cX3_admit : ByteArray := prog_5_method_3_code
def yX3_admit : MethodName := ⟨RX3, "admit", "(I)V"⟩
abbrev cX3_choose : ByteArray := prog_5_method_4_code
def yX3_choose : MethodName := ⟨RX3, "choose", "(ILEasyToHard$States;)V"⟩
abbrev cX3_teach : ByteArray := prog_5_method_5_code
def yX3_teach : MethodName := ⟨RX3, "teach", "(IILEasyToHard$States;)V"⟩
abbrev cX3_lesson : ByteArray := prog_5_method_6_code
def yX3_lesson : MethodName := ⟨RX3, "lesson", "(IILEasyToHard$States;)I"⟩
abbrev cX3_judge : ByteArray := prog_5_method_7_code
def yX3_judge : MethodName := ⟨RX3, "judge", "(I)V"⟩
def RX4 : String := "EasyToHard$Rows"
def TX4 : u_T := fun k => match k with
  | 0 => ("EasyToHard$Rows", "yes", "[J", true)
  | 1 => ("EasyToHard$Rows", "no", "[J", true)
  | 2 => ("EasyToHard$Rows", "errorsOfSet", "[J", true)
  | 3 => ("EasyToHard$Rows", "floorOfSet", "[J", true)
  | 4 => ("EasyToHard$Rows", "trial", "[I", true)
  | 5 => ("EasyToHard$Rows", "best", "[I", true)
  | 6 => ("EasyToHard$Rows", "changedOff", "[I", true)
  | 7 => ("EasyToHard$Rows", "fresh", "Z", false)
  | 8 => ("EasyToHard$Rows", "seeksBest", "Z", false)
  | 9 => ("EasyToHard$Rows", "n", "I", false)
  | 10 => ("EasyToHard$Rows", "all", "I", false)
  | 11 => ("EasyToHard$Rows", "goal", "I", false)
  | 12 => ("EasyToHard$Rows", "fewest", "I", false)
  | 13 => ("EasyToHard$Rows", "ways", "I", false)
  | 14 => ("EasyToHard$Rows", "bestOff", "I", false)
  | _ => ("EasyToHard$Rows", "bestWays", "I", false)
def tyX4 : Nat → FieldType := fun k => match k with
  | 0 => .array .long
  | 1 => .array .long
  | 2 => .array .long
  | 3 => .array .long
  | 4 => .array .int
  | 5 => .array .int
  | 6 => .array .int
  | 7 => .boolean
  | 8 => .boolean
  | 9 => .int
  | 10 => .int
  | 11 => .int
  | 12 => .int
  | 13 => .int
  | 14 => .int
  | _ => .int
abbrev wsX40 : List Cond := u_ws RX4 TX4 16
theorem nmX4 : ∀ a, a < 16 → ∀ b, b < 16 → a ≠ b → (TX4 a).2.1 ≠ (TX4 b).2.1 := by decide +kernel
theorem tyX4_ok : ∀ k, k < 16 → parseFieldDescriptor (TX4 k).2.2.1 = some (tyX4 k) := by decide +kernel
abbrev cX4_init : ByteArray := prog_6_method_1_code
def yX4_init : MethodName := ⟨RX4, "<init>", "()V"⟩
abbrev cX4_searchBest : ByteArray := prog_6_method_2_code
def yX4_searchBest : MethodName := ⟨RX4, "searchBest", "(LEasyToHard$Answers;)V"⟩
abbrev cX4_offChanged : ByteArray := prog_6_method_3_code
def yX4_offChanged : MethodName := ⟨RX4, "offChanged", "(II)I"⟩
abbrev cX4_takeAnswers : ByteArray := prog_6_method_4_code
def yX4_takeAnswers : MethodName := ⟨RX4, "takeAnswers", "(LEasyToHard$Answers;)V"⟩
abbrev cX4_turn : ByteArray := prog_6_method_5_code
def yX4_turn : MethodName := ⟨RX4, "turn", "(I)V"⟩
abbrev cX4_search : ByteArray := prog_6_method_6_code
def yX4_search : MethodName := ⟨RX4, "search", "(I)V"⟩
abbrev cX4_fillTables : ByteArray := prog_6_method_7_code
def yX4_fillTables : MethodName := ⟨RX4, "fillTables", "()V"⟩
abbrev cX4_extend : ByteArray := prog_6_method_8_code
def yX4_extend : MethodName := ⟨RX4, "extend", "(IIJ)V"⟩
abbrev cX4_isHopeless : ByteArray := prog_6_method_9_code
def yX4_isHopeless : MethodName := ⟨RX4, "isHopeless", "(I)Z"⟩
abbrev cX4_judge : ByteArray := prog_6_method_10_code
def yX4_judge : MethodName := ⟨RX4, "judge", "(I)V"⟩
abbrev cX4_lesser : ByteArray := prog_6_method_11_code
def yX4_lesser : MethodName := ⟨RX4, "lesser", "(JJ)J"⟩
abbrev cX4_total : ByteArray := prog_6_method_12_code
def yX4_total : MethodName := ⟨RX4, "total", "(J)I"⟩
def RX5 : String := "EasyToHard$Sheet"
def TX5 : u_T := fun k => match k with
  | 0 => ("EasyToHard$Sheet", "items", "[I", true)
  | 1 => ("EasyToHard$Sheet", "lost", "Z", false)
  | 2 => ("EasyToHard$Sheet", "form", "I", false)
  | _ => ("EasyToHard$Sheet", "size", "I", false)
def tyX5 : Nat → FieldType := fun k => match k with
  | 0 => .array .int
  | 1 => .boolean
  | 2 => .int
  | _ => .int
abbrev wsX50 : List Cond := u_ws RX5 TX5 4
theorem nmX5 : ∀ a, a < 4 → ∀ b, b < 4 → a ≠ b → (TX5 a).2.1 ≠ (TX5 b).2.1 := by decide +kernel
theorem tyX5_ok : ∀ k, k < 4 → parseFieldDescriptor (TX5 k).2.2.1 = some (tyX5 k) := by decide +kernel
abbrev cX5_init : ByteArray := prog_7_method_1_code
def yX5_init : MethodName := ⟨RX5, "<init>", "()V"⟩
abbrev cX5_renew : ByteArray := prog_7_method_2_code
def yX5_renew : MethodName := ⟨RX5, "renew", "(II)V"⟩
abbrev cX5_findingAt : ByteArray := prog_7_method_3_code
def yX5_findingAt : MethodName := ⟨RX5, "findingAt", "(II)I"⟩
abbrev cX5_hasRange : ByteArray := prog_7_method_4_code
def yX5_hasRange : MethodName := ⟨RX5, "hasRange", "(II)Z"⟩
abbrev cX5_put : ByteArray := prog_7_method_5_code
def yX5_put : MethodName := ⟨RX5, "put", "(II)V"⟩
def RX6 : String := "EasyToHard$States"
def TX6 : u_T := fun k => match k with
  | 0 => ("EasyToHard$States", "needs", "[I", true)
  | 1 => ("EasyToHard$States", "isState", "[Z", true)
  | 2 => ("EasyToHard$States", "list", "[I", true)
  | 3 => ("EasyToHard$States", "waysTo", "[I", true)
  | 4 => ("EasyToHard$States", "fresh", "Z", false)
  | 5 => ("EasyToHard$States", "n", "I", false)
  | 6 => ("EasyToHard$States", "all", "I", false)
  | _ => ("EasyToHard$States", "size", "I", false)
def tyX6 : Nat → FieldType := fun k => match k with
  | 0 => .array .int
  | 1 => .array .boolean
  | 2 => .array .int
  | 3 => .array .int
  | 4 => .boolean
  | 5 => .int
  | 6 => .int
  | _ => .int
abbrev wsX60 : List Cond := u_ws RX6 TX6 8
theorem nmX6 : ∀ a, a < 8 → ∀ b, b < 8 → a ≠ b → (TX6 a).2.1 ≠ (TX6 b).2.1 := by decide +kernel
theorem tyX6_ok : ∀ k, k < 8 → parseFieldDescriptor (TX6 k).2.2.1 = some (tyX6 k) := by decide +kernel
abbrev cX6_init : ByteArray := prog_8_method_1_code
def yX6_init : MethodName := ⟨RX6, "<init>", "()V"⟩
abbrev cX6_begin : ByteArray := prog_8_method_2_code
def yX6_begin : MethodName := ⟨RX6, "begin", "(I)V"⟩
abbrev cX6_gather : ByteArray := prog_8_method_3_code
def yX6_gather : MethodName := ⟨RX6, "gather", "()V"⟩
abbrev cX6_holdsNeeds : ByteArray := prog_8_method_4_code
def yX6_holdsNeeds : MethodName := ⟨RX6, "holdsNeeds", "(I)Z"⟩
abbrev cX6_neighbours : ByteArray := prog_8_method_5_code
def yX6_neighbours : MethodName := ⟨RX6, "neighbours", "(I)I"⟩
abbrev cX6_waysToAll : ByteArray := prog_8_method_6_code
def yX6_waysToAll : MethodName := ⟨RX6, "waysToAll", "()I"⟩
def RX7 : String := "EasyToHard"
def TX7 : u_T := fun k => match k with
  | 0 => ("EasyToHard", "settings", "[I", true)
  | 1 => ("EasyToHard", "answers", "LEasyToHard$Answers;", true)
  | 2 => ("EasyToHard", "text", "LEasyToHard$NeedsText;", true)
  | 3 => ("EasyToHard", "rows", "LEasyToHard$Rows;", true)
  | 4 => ("EasyToHard", "space", "LEasyToHard$States;", true)
  | 5 => ("EasyToHard", "asking", "LEasyToHard$Asking;", true)
  | 6 => ("EasyToHard", "plan", "LEasyToHard$Plan;", true)
  | 7 => ("EasyToHard", "sheets", "[LEasyToHard$Sheet;", true)
  | _ => ("EasyToHard", "latestFinding", "I", false)
def tyX7 : Nat → FieldType := fun k => match k with
  | 0 => .array .int
  | 1 => .object "EasyToHard$Answers"
  | 2 => .object "EasyToHard$NeedsText"
  | 3 => .object "EasyToHard$Rows"
  | 4 => .object "EasyToHard$States"
  | 5 => .object "EasyToHard$Asking"
  | 6 => .object "EasyToHard$Plan"
  | 7 => .array (.object "EasyToHard$Sheet")
  | _ => .int
abbrev wsX70 : List Cond := u_ws RX7 TX7 9
theorem nmX7 : ∀ a, a < 9 → ∀ b, b < 9 → a ≠ b → (TX7 a).2.1 ≠ (TX7 b).2.1 := by decide +kernel
theorem tyX7_ok : ∀ k, k < 9 → parseFieldDescriptor (TX7 k).2.2.1 = some (tyX7 k) := by decide +kernel
abbrev cX7_init : ByteArray := prog_1_method_1_code
def yX7_init : MethodName := ⟨RX7, "<init>", "()V"⟩
abbrev cX7_set : ByteArray := prog_1_method_2_code
def yX7_set : MethodName := ⟨RX7, "set", "(II)I"⟩
abbrev cX7_answer : ByteArray := prog_1_method_3_code
def yX7_answer : MethodName := ⟨RX7, "answer", "(IIII)I"⟩
abbrev cX7_read : ByteArray := prog_1_method_4_code
def yX7_read : MethodName := ⟨RX7, "read", "(III)I"⟩
abbrev cX7_said : ByteArray := prog_1_method_5_code
def yX7_said : MethodName := ⟨RX7, "said", "(II)I"⟩
abbrev cX7_type : ByteArray := prog_1_method_6_code
def yX7_type : MethodName := ⟨RX7, "type", "(I)I"⟩
abbrev cX7_wipe : ByteArray := prog_1_method_7_code
def yX7_wipe : MethodName := ⟨RX7, "wipe", "()I"⟩
abbrev cX7_fault : ByteArray := prog_1_method_8_code
def yX7_fault : MethodName := ⟨RX7, "fault", "()I"⟩
abbrev cX7_needed : ByteArray := prog_1_method_9_code
def yX7_needed : MethodName := ⟨RX7, "needed", "(III)I"⟩
abbrev cX7_errors : ByteArray := prog_1_method_10_code
def yX7_errors : MethodName := ⟨RX7, "errors", "(II)I"⟩
abbrev cX7_off : ByteArray := prog_1_method_11_code
def yX7_off : MethodName := ⟨RX7, "off", "(I)I"⟩
abbrev cX7_row : ByteArray := prog_1_method_12_code
def yX7_row : MethodName := ⟨RX7, "row", "(I)I"⟩
abbrev cX7_step : ByteArray := prog_1_method_13_code
def yX7_step : MethodName := ⟨RX7, "step", "(II)I"⟩
abbrev cX7_offBy : ByteArray := prog_1_method_14_code
def yX7_offBy : MethodName := ⟨RX7, "offBy", "(I)I"⟩
abbrev cX7_fit : ByteArray := prog_1_method_15_code
def yX7_fit : MethodName := ⟨RX7, "fit", "(II)J"⟩
abbrev cX7_odd : ByteArray := prog_1_method_16_code
def yX7_odd : MethodName := ⟨RX7, "odd", "()I"⟩
abbrev cX7_without : ByteArray := prog_1_method_17_code
def yX7_without : MethodName := ⟨RX7, "without", "(II)I"⟩
abbrev cX7_worst : ByteArray := prog_1_method_18_code
def yX7_worst : MethodName := ⟨RX7, "worst", "(I)I"⟩
abbrev cX7_states : ByteArray := prog_1_method_19_code
def yX7_states : MethodName := ⟨RX7, "states", "(I)I"⟩
abbrev cX7_belongs : ByteArray := prog_1_method_20_code
def yX7_belongs : MethodName := ⟨RX7, "belongs", "(II)I"⟩
abbrev cX7_next : ByteArray := prog_1_method_21_code
def yX7_next : MethodName := ⟨RX7, "next", "(II)I"⟩
abbrev cX7_paths : ByteArray := prog_1_method_22_code
def yX7_paths : MethodName := ⟨RX7, "paths", "()I"⟩
abbrev cX7_deep : ByteArray := prog_1_method_23_code
def yX7_deep : MethodName := ⟨RX7, "deep", "(I)I"⟩
abbrev cX7_sure : ByteArray := prog_1_method_24_code
def yX7_sure : MethodName := ⟨RX7, "sure", "(III)I"⟩
abbrev cX7_chance : ByteArray := prog_1_method_25_code
def yX7_chance : MethodName := ⟨RX7, "chance", "(IIIII)J"⟩
abbrev cX7_share : ByteArray := prog_1_method_26_code
def yX7_share : MethodName := ⟨RX7, "share", "(IIIII)J"⟩
abbrev cX7_likeliest : ByteArray := prog_1_method_27_code
def yX7_likeliest : MethodName := ⟨RX7, "likeliest", "(III)I"⟩
abbrev cX7_lessons : ByteArray := prog_1_method_28_code
def yX7_lessons : MethodName := ⟨RX7, "lessons", "(II)I"⟩
abbrev cX7_sheet : ByteArray := prog_1_method_29_code
def yX7_sheet : MethodName := ⟨RX7, "sheet", "(III)I"⟩
abbrev cX7_lose : ByteArray := prog_1_method_30_code
def yX7_lose : MethodName := ⟨RX7, "lose", "(I)I"⟩
abbrev cX7_lay : ByteArray := prog_1_method_31_code
def yX7_lay : MethodName := ⟨RX7, "lay", "(IIII)I"⟩
abbrev cX7_get : ByteArray := prog_1_method_32_code
def yX7_get : MethodName := ⟨RX7, "get", "(III)I"⟩
abbrev cX7_copy : ByteArray := prog_1_method_33_code
def yX7_copy : MethodName := ⟨RX7, "copy", "(IIIII)I"⟩
abbrev cX7_write : ByteArray := prog_1_method_34_code
def yX7_write : MethodName := ⟨RX7, "write", "(I)I"⟩
abbrev cX7_count : ByteArray := prog_1_method_35_code
def yX7_count : MethodName := ⟨RX7, "count", "(I)I"⟩
abbrev cX7_digest : ByteArray := prog_1_method_36_code
def yX7_digest : MethodName := ⟨RX7, "digest", "()J"⟩
abbrev cX7_join : ByteArray := prog_1_method_37_code
def yX7_join : MethodName := ⟨RX7, "join", "(JJ)J"⟩
abbrev cX7_joinPupil : ByteArray := prog_1_method_38_code
def yX7_joinPupil : MethodName := ⟨RX7, "joinPupil", "(JI)J"⟩
abbrev cX7_joinQuestion : ByteArray := prog_1_method_39_code
def yX7_joinQuestion : MethodName := ⟨RX7, "joinQuestion", "(JI)J"⟩
abbrev cX7_within : ByteArray := prog_1_method_40_code
def yX7_within : MethodName := ⟨RX7, "within", "(II)Z"⟩
abbrev cX7_isQuestion : ByteArray := prog_1_method_41_code
def yX7_isQuestion : MethodName := ⟨RX7, "isQuestion", "(I)Z"⟩
abbrev cX7_chanceFits : ByteArray := prog_1_method_42_code
def yX7_chanceFits : MethodName := ⟨RX7, "chanceFits", "(IIII)Z"⟩
abbrev cX7_refusal : ByteArray := prog_1_method_43_code
def yX7_refusal : MethodName := ⟨RX7, "refusal", "(I)J"⟩
abbrev cX7_tellFinding : ByteArray := prog_1_method_44_code
def yX7_tellFinding : MethodName := ⟨RX7, "tellFinding", "(I)I"⟩
abbrev cX7_tellOne : ByteArray := prog_1_method_45_code
def yX7_tellOne : MethodName := ⟨RX7, "tellOne", "(IIII)V"⟩
abbrev cX7_isRow : ByteArray := prog_1_method_46_code
def yX7_isRow : MethodName := ⟨RX7, "isRow", "(LEasyToHard$Sheet;)Z"⟩
abbrev cX7_needsOf : ByteArray := prog_1_method_47_code
def yX7_needsOf : MethodName := ⟨RX7, "needsOf", "(II)I"⟩
abbrev cX7_findStates : ByteArray := prog_1_method_48_code
def yX7_findStates : MethodName := ⟨RX7, "findStates", "()V"⟩
abbrev cX7_stateOf : ByteArray := prog_1_method_49_code
def yX7_stateOf : MethodName := ⟨RX7, "stateOf", "(I)I"⟩
abbrev cX7_statesWithErrors : ByteArray := prog_1_method_50_code
def yX7_statesWithErrors : MethodName := ⟨RX7, "statesWithErrors", "(II)I"⟩
abbrev cX7_lowestTerm : ByteArray := prog_1_method_51_code
def yX7_lowestTerm : MethodName := ⟨RX7, "lowestTerm", "(JJI)J"⟩
abbrev cX7_commonDivisor : ByteArray := prog_1_method_52_code
def yX7_commonDivisor : MethodName := ⟨RX7, "commonDivisor", "(JJ)J"⟩
def RX8 : String := "EasyToHardModel"
def TX8 : u_T := fun k => match k with
  | 0 => ("EasyToHardModel", "forms", "[I", true)
  | 1 => ("EasyToHardModel", "sizes", "[I", true)
  | 2 => ("EasyToHardModel", "items", "[I", true)
  | 3 => ("EasyToHardModel", "moved", "[I", true)
  | 4 => ("EasyToHardModel", "latest", "I", false)
  | 5 => ("EasyToHardModel", "settings", "[I", true)
  | 6 => ("EasyToHardModel", "tellings", "I", false)
  | 7 => ("EasyToHardModel", "toldWho", "[I", true)
  | 8 => ("EasyToHardModel", "toldWhat", "[I", true)
  | 9 => ("EasyToHardModel", "toldSays", "[I", true)
  | 10 => ("EasyToHardModel", "toldTime", "[I", true)
  | 11 => ("EasyToHardModel", "says", "[I", true)
  | 12 => ("EasyToHardModel", "text", "[I", true)
  | 13 => ("EasyToHardModel", "typed", "I", false)
  | 14 => ("EasyToHardModel", "at", "I", false)
  | 15 => ("EasyToHardModel", "parts", "I", false)
  | 16 => ("EasyToHardModel", "toldNeeds", "[I", true)
  | 17 => ("EasyToHardModel", "needs", "[I", true)
  | 18 => ("EasyToHardModel", "wrong", "[I", true)
  | 19 => ("EasyToHardModel", "order", "[I", true)
  | 20 => ("EasyToHardModel", "bestOrder", "[I", true)
  | 21 => ("EasyToHardModel", "bestOff", "I", false)
  | 22 => ("EasyToHardModel", "bestMany", "I", false)
  | 23 => ("EasyToHardModel", "ways", "[I", true)
  | 24 => ("EasyToHardModel", "may", "[I", true)
  | 25 => ("EasyToHardModel", "has", "[I", true)
  | 26 => ("EasyToHardModel", "fewest", "[I", true)
  | 27 => ("EasyToHardModel", "begins", "[I", true)
  | _ => ("EasyToHardModel", "firstOrder", "[I", true)
def tyX8 : Nat → FieldType := fun k => match k with
  | 0 => .array .int
  | 1 => .array .int
  | 2 => .array .int
  | 3 => .array .int
  | 4 => .int
  | 5 => .array .int
  | 6 => .int
  | 7 => .array .int
  | 8 => .array .int
  | 9 => .array .int
  | 10 => .array .int
  | 11 => .array .int
  | 12 => .array .int
  | 13 => .int
  | 14 => .int
  | 15 => .int
  | 16 => .array .int
  | 17 => .array .int
  | 18 => .array .int
  | 19 => .array .int
  | 20 => .array .int
  | 21 => .int
  | 22 => .int
  | 23 => .array .int
  | 24 => .array .int
  | 25 => .array .int
  | 26 => .array .int
  | 27 => .array .int
  | _ => .array .int
abbrev wsX80 : List Cond := u_ws RX8 TX8 29
theorem nmX8 : ∀ a, a < 29 → ∀ b, b < 29 → a ≠ b → (TX8 a).2.1 ≠ (TX8 b).2.1 := by decide +kernel
theorem tyX8_ok : ∀ k, k < 29 → parseFieldDescriptor (TX8 k).2.2.1 = some (tyX8 k) := by decide +kernel
abbrev cX8_init : ByteArray := prog_10_method_1_code
def yX8_init : MethodName := ⟨RX8, "<init>", "()V"⟩
abbrev cX8_in : ByteArray := prog_10_method_3_code
def yX8_in : MethodName := ⟨RX8, "in", "(JJJ)Z"⟩
abbrev cX8_no : ByteArray := prog_10_method_4_code
def yX8_no : MethodName := ⟨RX8, "no", "(I)J"⟩
abbrev cX8_isTwo : ByteArray := prog_10_method_5_code
def yX8_isTwo : MethodName := ⟨RX8, "isTwo", "(I)Z"⟩
abbrev cX8_isIn : ByteArray := prog_10_method_6_code
def yX8_isIn : MethodName := ⟨RX8, "isIn", "(II)Z"⟩
abbrev cX8_ones : ByteArray := prog_10_method_7_code
def yX8_ones : MethodName := ⟨RX8, "ones", "(I)I"⟩
abbrev cX8_met : ByteArray := prog_10_method_8_code
def yX8_met : MethodName := ⟨RX8, "met", "(I)I"⟩
abbrev cX8_isSheet : ByteArray := prog_10_method_9_code
def yX8_isSheet : MethodName := ⟨RX8, "isSheet", "(I)Z"⟩
abbrev cX8_sheet : ByteArray := prog_10_method_10_code
def yX8_sheet : MethodName := ⟨RX8, "sheet", "(III)I"⟩
abbrev cX8_lose : ByteArray := prog_10_method_11_code
def yX8_lose : MethodName := ⟨RX8, "lose", "(I)I"⟩
abbrev cX8_lacks : ByteArray := prog_10_method_12_code
def yX8_lacks : MethodName := ⟨RX8, "lacks", "(III)I"⟩
abbrev cX8_cut : ByteArray := prog_10_method_13_code
def yX8_cut : MethodName := ⟨RX8, "cut", "(II)I"⟩
abbrev cX8_lay : ByteArray := prog_10_method_14_code
def yX8_lay : MethodName := ⟨RX8, "lay", "(IIII)I"⟩
abbrev cX8_get : ByteArray := prog_10_method_15_code
def yX8_get : MethodName := ⟨RX8, "get", "(III)I"⟩
abbrev cX8_copy : ByteArray := prog_10_method_16_code
def yX8_copy : MethodName := ⟨RX8, "copy", "(IIIII)I"⟩
abbrev cX8_isPupil : ByteArray := prog_10_method_17_code
def yX8_isPupil : MethodName := ⟨RX8, "isPupil", "(I)Z"⟩
abbrev cX8_isAny : ByteArray := prog_10_method_18_code
def yX8_isAny : MethodName := ⟨RX8, "isAny", "(I)Z"⟩
abbrev cX8_n : ByteArray := prog_10_method_19_code
def yX8_n : MethodName := ⟨RX8, "n", "()I"⟩
abbrev cX8_isQuestion : ByteArray := prog_10_method_20_code
def yX8_isQuestion : MethodName := ⟨RX8, "isQuestion", "(I)Z"⟩
abbrev cX8_whole : ByteArray := prog_10_method_21_code
def yX8_whole : MethodName := ⟨RX8, "whole", "()I"⟩
abbrev cX8_high : ByteArray := prog_10_method_22_code
def yX8_high : MethodName := ⟨RX8, "high", "(I)I"⟩
abbrev cX8_set : ByteArray := prog_10_method_23_code
def yX8_set : MethodName := ⟨RX8, "set", "(II)I"⟩
abbrev cX8_isLate : ByteArray := prog_10_method_24_code
def yX8_isLate : MethodName := ⟨RX8, "isLate", "(I)Z"⟩
abbrev cX8_answer : ByteArray := prog_10_method_25_code
def yX8_answer : MethodName := ⟨RX8, "answer", "(IIII)I"⟩
abbrev cX8_read : ByteArray := prog_10_method_26_code
def yX8_read : MethodName := ⟨RX8, "read", "(III)I"⟩
abbrev cX8_findSays : ByteArray := prog_10_method_27_code
def yX8_findSays : MethodName := ⟨RX8, "findSays", "()V"⟩
abbrev cX8_said : ByteArray := prog_10_method_28_code
def yX8_said : MethodName := ⟨RX8, "said", "(II)I"⟩
abbrev cX8_bits : ByteArray := prog_10_method_29_code
def yX8_bits : MethodName := ⟨RX8, "bits", "(II)I"⟩
abbrev cX8_type : ByteArray := prog_10_method_30_code
def yX8_type : MethodName := ⟨RX8, "type", "(I)I"⟩
abbrev cX8_wipe : ByteArray := prog_10_method_31_code
def yX8_wipe : MethodName := ⟨RX8, "wipe", "()I"⟩
abbrev cX8_here : ByteArray := prog_10_method_32_code
def yX8_here : MethodName := ⟨RX8, "here", "()I"⟩
abbrev cX8_clears : ByteArray := prog_10_method_33_code
def yX8_clears : MethodName := ⟨RX8, "clears", "()V"⟩
abbrev cX8_takes : ByteArray := prog_10_method_34_code
def yX8_takes : MethodName := ⟨RX8, "takes", "(I)Z"⟩
abbrev cX8_ahead : ByteArray := prog_10_method_35_code
def yX8_ahead : MethodName := ⟨RX8, "ahead", "(I)I"⟩
abbrev cX8_readsPart : ByteArray := prog_10_method_36_code
def yX8_readsPart : MethodName := ⟨RX8, "readsPart", "()Z"⟩
abbrev cX8_reads : ByteArray := prog_10_method_37_code
def yX8_reads : MethodName := ⟨RX8, "reads", "()I"⟩
abbrev cX8_fault : ByteArray := prog_10_method_38_code
def yX8_fault : MethodName := ⟨RX8, "fault", "()I"⟩
abbrev cX8_isFound : ByteArray := prog_10_method_39_code
def yX8_isFound : MethodName := ⟨RX8, "isFound", "(II)Z"⟩
abbrev cX8_isNeeded : ByteArray := prog_10_method_40_code
def yX8_isNeeded : MethodName := ⟨RX8, "isNeeded", "(III)Z"⟩
abbrev cX8_find : ByteArray := prog_10_method_41_code
def yX8_find : MethodName := ⟨RX8, "find", "()V"⟩
abbrev cX8_needed : ByteArray := prog_10_method_42_code
def yX8_needed : MethodName := ⟨RX8, "needed", "(III)I"⟩
abbrev cX8_findNeeds : ByteArray := prog_10_method_43_code
def yX8_findNeeds : MethodName := ⟨RX8, "findNeeds", "()V"⟩
abbrev cX8_isState : ByteArray := prog_10_method_44_code
def yX8_isState : MethodName := ⟨RX8, "isState", "(I)Z"⟩
abbrev cX8_errorsOf : ByteArray := prog_10_method_45_code
def yX8_errorsOf : MethodName := ⟨RX8, "errorsOf", "(II)I"⟩
abbrev cX8_errors : ByteArray := prog_10_method_46_code
def yX8_errors : MethodName := ⟨RX8, "errors", "(II)I"⟩
abbrev cX8_findWrong : ByteArray := prog_10_method_47_code
def yX8_findWrong : MethodName := ⟨RX8, "findWrong", "(II)V"⟩
abbrev cX8_offNow : ByteArray := prog_10_method_48_code
def yX8_offNow : MethodName := ⟨RX8, "offNow", "(I)I"⟩
abbrev cX8_goesOn : ByteArray := prog_10_method_49_code
def yX8_goesOn : MethodName := ⟨RX8, "goesOn", "(I)Z"⟩
abbrev cX8_swaps : ByteArray := prog_10_method_50_code
def yX8_swaps : MethodName := ⟨RX8, "swaps", "(II)V"⟩
abbrev cX8_findOrder : ByteArray := prog_10_method_51_code
def yX8_findOrder : MethodName := ⟨RX8, "findOrder", "(II)V"⟩
abbrev cX8_findBest : ByteArray := prog_10_method_52_code
def yX8_findBest : MethodName := ⟨RX8, "findBest", "()V"⟩
abbrev cX8_off : ByteArray := prog_10_method_53_code
def yX8_off : MethodName := ⟨RX8, "off", "(I)I"⟩
abbrev cX8_row : ByteArray := prog_10_method_54_code
def yX8_row : MethodName := ⟨RX8, "row", "(I)I"⟩
abbrev cX8_stepOf : ByteArray := prog_10_method_55_code
def yX8_stepOf : MethodName := ⟨RX8, "stepOf", "(II)I"⟩
abbrev cX8_step : ByteArray := prog_10_method_56_code
def yX8_step : MethodName := ⟨RX8, "step", "(II)I"⟩
abbrev cX8_offBy : ByteArray := prog_10_method_57_code
def yX8_offBy : MethodName := ⟨RX8, "offBy", "(I)I"⟩
abbrev cX8_allAnswers : ByteArray := prog_10_method_58_code
def yX8_allAnswers : MethodName := ⟨RX8, "allAnswers", "(I)I"⟩
abbrev cX8_shares : ByteArray := prog_10_method_59_code
def yX8_shares : MethodName := ⟨RX8, "shares", "()I"⟩
abbrev cX8_part : ByteArray := prog_10_method_60_code
def yX8_part : MethodName := ⟨RX8, "part", "(JJI)J"⟩
abbrev cX8_fitOf : ByteArray := prog_10_method_61_code
def yX8_fitOf : MethodName := ⟨RX8, "fitOf", "(II)J"⟩
abbrev cX8_fit : ByteArray := prog_10_method_62_code
def yX8_fit : MethodName := ⟨RX8, "fit", "(II)J"⟩
abbrev cX8_oddNow : ByteArray := prog_10_method_63_code
def yX8_oddNow : MethodName := ⟨RX8, "oddNow", "()I"⟩
abbrev cX8_odd : ByteArray := prog_10_method_64_code
def yX8_odd : MethodName := ⟨RX8, "odd", "()I"⟩
abbrev cX8_withoutOf : ByteArray := prog_10_method_65_code
def yX8_withoutOf : MethodName := ⟨RX8, "withoutOf", "(II)I"⟩
abbrev cX8_without : ByteArray := prog_10_method_66_code
def yX8_without : MethodName := ⟨RX8, "without", "(II)I"⟩
abbrev cX8_worstOf : ByteArray := prog_10_method_67_code
def yX8_worstOf : MethodName := ⟨RX8, "worstOf", "(I)I"⟩
abbrev cX8_worst : ByteArray := prog_10_method_68_code
def yX8_worst : MethodName := ⟨RX8, "worst", "(I)I"⟩
abbrev cX8_statesOf : ByteArray := prog_10_method_69_code
def yX8_statesOf : MethodName := ⟨RX8, "statesOf", "(I)I"⟩
abbrev cX8_states : ByteArray := prog_10_method_70_code
def yX8_states : MethodName := ⟨RX8, "states", "(I)I"⟩
abbrev cX8_belongsOf : ByteArray := prog_10_method_71_code
def yX8_belongsOf : MethodName := ⟨RX8, "belongsOf", "(II)I"⟩
abbrev cX8_belongs : ByteArray := prog_10_method_72_code
def yX8_belongs : MethodName := ⟨RX8, "belongs", "(II)I"⟩
abbrev cX8_next : ByteArray := prog_10_method_73_code
def yX8_next : MethodName := ⟨RX8, "next", "(II)I"⟩
abbrev cX8_pathsNow : ByteArray := prog_10_method_74_code
def yX8_pathsNow : MethodName := ⟨RX8, "pathsNow", "()I"⟩
abbrev cX8_paths : ByteArray := prog_10_method_75_code
def yX8_paths : MethodName := ⟨RX8, "paths", "()I"⟩
abbrev cX8_deepOf : ByteArray := prog_10_method_76_code
def yX8_deepOf : MethodName := ⟨RX8, "deepOf", "(I)I"⟩
abbrev cX8_deep : ByteArray := prog_10_method_77_code
def yX8_deep : MethodName := ⟨RX8, "deep", "(I)I"⟩
abbrev cX8_byAsking : ByteArray := prog_10_method_78_code
def yX8_byAsking : MethodName := ⟨RX8, "byAsking", "(II)I"⟩
abbrev cX8_sureOf : ByteArray := prog_10_method_79_code
def yX8_sureOf : MethodName := ⟨RX8, "sureOf", "(III)I"⟩
abbrev cX8_sure : ByteArray := prog_10_method_80_code
def yX8_sure : MethodName := ⟨RX8, "sure", "(III)I"⟩
abbrev cX8_chanceAbove : ByteArray := prog_10_method_81_code
def yX8_chanceAbove : MethodName := ⟨RX8, "chanceAbove", "(IIII)J"⟩
abbrev cX8_areLots : ByteArray := prog_10_method_82_code
def yX8_areLots : MethodName := ⟨RX8, "areLots", "(II)Z"⟩
abbrev cX8_chance : ByteArray := prog_10_method_83_code
def yX8_chance : MethodName := ⟨RX8, "chance", "(IIIII)J"⟩
abbrev cX8_share : ByteArray := prog_10_method_84_code
def yX8_share : MethodName := ⟨RX8, "share", "(IIIII)J"⟩
abbrev cX8_likeliestOf : ByteArray := prog_10_method_85_code
def yX8_likeliestOf : MethodName := ⟨RX8, "likeliestOf", "(III)I"⟩
abbrev cX8_likeliest : ByteArray := prog_10_method_86_code
def yX8_likeliest : MethodName := ⟨RX8, "likeliest", "(III)I"⟩
abbrev cX8_power : ByteArray := prog_10_method_87_code
def yX8_power : MethodName := ⟨RX8, "power", "(II)I"⟩
abbrev cX8_isSome : ByteArray := prog_10_method_88_code
def yX8_isSome : MethodName := ⟨RX8, "isSome", "(I)Z"⟩
abbrev cX8_learnt : ByteArray := prog_10_method_89_code
def yX8_learnt : MethodName := ⟨RX8, "learnt", "(II)I"⟩
abbrev cX8_lessonsOf : ByteArray := prog_10_method_90_code
def yX8_lessonsOf : MethodName := ⟨RX8, "lessonsOf", "(II)I"⟩
abbrev cX8_lessons : ByteArray := prog_10_method_91_code
def yX8_lessons : MethodName := ⟨RX8, "lessons", "(II)I"⟩
abbrev cX8_write : ByteArray := prog_10_method_92_code
def yX8_write : MethodName := ⟨RX8, "write", "(I)I"⟩
abbrev cX8_pupilsWith : ByteArray := prog_10_method_93_code
def yX8_pupilsWith : MethodName := ⟨RX8, "pupilsWith", "()I"⟩
abbrev cX8_count : ByteArray := prog_10_method_94_code
def yX8_count : MethodName := ⟨RX8, "count", "(I)I"⟩
abbrev cX8_digest : ByteArray := prog_10_method_95_code
def yX8_digest : MethodName := ⟨RX8, "digest", "()J"⟩
def RJ6 : String := "java/lang/Integer"
def TJ6 : u_T := fun k => match k with
  | _ => ("", "", "", false)
def tyJ6 : Nat → FieldType := fun k => match k with
  | _ => .int
abbrev wsJ60 : List Cond := u_ws RJ6 TJ6 0
theorem nmJ6 : ∀ a, a < 0 → ∀ b, b < 0 → a ≠ b → (TJ6 a).2.1 ≠ (TJ6 b).2.1 := by decide +kernel
theorem tyJ6_ok : ∀ k, k < 0 → parseFieldDescriptor (TJ6 k).2.2.1 = some (tyJ6 k) := by decide +kernel
abbrev cJ6_numberOfTrailingZeros_0f7a4 : ByteArray := prog_11_method_48_code
def yJ6_numberOfTrailingZeros_0f7a4 : MethodName := ⟨RJ6, "numberOfTrailingZeros", "(I)I"⟩
abbrev cJ6_bitCount_0f7a4 : ByteArray := prog_11_method_49_code
def yJ6_bitCount_0f7a4 : MethodName := ⟨RJ6, "bitCount", "(I)I"⟩
def RJ9 : String := "java/lang/Math"
def TJ9 : u_T := fun k => match k with
  | _ => ("", "", "", false)
def tyJ9 : Nat → FieldType := fun k => match k with
  | _ => .int
abbrev wsJ90 : List Cond := u_ws RJ9 TJ9 0
theorem nmJ9 : ∀ a, a < 0 → ∀ b, b < 0 → a ≠ b → (TJ9 a).2.1 ≠ (TJ9 b).2.1 := by decide +kernel
theorem tyJ9_ok : ∀ k, k < 0 → parseFieldDescriptor (TJ9 k).2.2.1 = some (tyJ9 k) := by decide +kernel
abbrev cJ9_max_7cf53 : ByteArray := prog_12_method_65_code
def yJ9_max_7cf53 : MethodName := ⟨RJ9, "max", "(II)I"⟩
abbrev cJ9_min_7cf53 : ByteArray := prog_12_method_69_code
def yJ9_min_7cf53 : MethodName := ⟨RJ9, "min", "(II)I"⟩
def RJ10 : String := "java/lang/System"
def TJ10 : u_T := fun k => match k with
  | _ => ("", "", "", false)
def tyJ10 : Nat → FieldType := fun k => match k with
  | _ => .int
abbrev wsJ100 : List Cond := u_ws RJ10 TJ10 0
theorem nmJ10 : ∀ a, a < 0 → ∀ b, b < 0 → a ≠ b → (TJ10 a).2.1 ≠ (TJ10 b).2.1 := by decide +kernel
theorem tyJ10_ok : ∀ k, k < 0 → parseFieldDescriptor (TJ10 k).2.2.1 = some (tyJ10 k) := by decide +kernel
def RJ7 : String := "java/util/Arrays"
def TJ7 : u_T := fun k => match k with
  | _ => ("", "", "", false)
def tyJ7 : Nat → FieldType := fun k => match k with
  | _ => .int
abbrev wsJ70 : List Cond := u_ws RJ7 TJ7 0
theorem nmJ7 : ∀ a, a < 0 → ∀ b, b < 0 → a ≠ b → (TJ7 a).2.1 ≠ (TJ7 b).2.1 := by decide +kernel
theorem tyJ7_ok : ∀ k, k < 0 → parseFieldDescriptor (TJ7 k).2.2.1 = some (tyJ7 k) := by decide +kernel
abbrev cJ7_fill_d0a16 : ByteArray := prog_14_method_101_code
def yJ7_fill_d0a16 : MethodName := ⟨RJ7, "fill", "([JJ)V"⟩
abbrev cJ7_fill_53178 : ByteArray := prog_14_method_103_code
def yJ7_fill_53178 : MethodName := ⟨RJ7, "fill", "([II)V"⟩
def RL : String := "EasyToHardLaw"
abbrev cL_law : ByteArray := code
def yL_law : MethodName := ⟨RL, "law", "([I)Z"⟩
abbrev vwCl : List vw_C := [(RX0, TX0, 12), (RX1, TX1, 3), (RX2, TX2, 6), (RX3, TX3, 6), (RX4, TX4, 16), (RX5, TX5, 4), (RX6, TX6, 8), (RX7, TX7, 9), (RX8, TX8, 29)]
end
section
theorem dX0_init_0 : decode cX0_init 0 = .ok (.aload_n 0, 1) := by decide +kernel
theorem dX0_init_1 : decode cX0_init 1 = .ok (.invokespecial 3, 3) := by decide +kernel
theorem dX0_init_4 : decode cX0_init 4 = .ok (.aload_n 0, 1) := by decide +kernel
theorem dX0_init_5 : decode cX0_init 5 = .ok (.sipush 160, 3) := by decide +kernel
theorem dX0_init_8 : decode cX0_init 8 = .ok (.newarray .byte, 2) := by decide +kernel
theorem dX0_init_10 : decode cX0_init 10 = .ok (.putfield 9, 3) := by decide +kernel
theorem dX0_init_13 : decode cX0_init 13 = .ok (.aload_n 0, 1) := by decide +kernel
theorem dX0_init_14 : decode cX0_init 14 = .ok (.sipush 160, 3) := by decide +kernel
theorem dX0_init_17 : decode cX0_init 17 = .ok (.newarray .byte, 2) := by decide +kernel
theorem dX0_init_19 : decode cX0_init 19 = .ok (.putfield 15, 3) := by decide +kernel
theorem dX0_init_22 : decode cX0_init 22 = .ok (.aload_n 0, 1) := by decide +kernel
theorem dX0_init_23 : decode cX0_init 23 = .ok (.sipush 160, 3) := by decide +kernel
theorem dX0_init_26 : decode cX0_init 26 = .ok (.newarray .byte, 2) := by decide +kernel
theorem dX0_init_28 : decode cX0_init 28 = .ok (.putfield 18, 3) := by decide +kernel
theorem dX0_init_31 : decode cX0_init 31 = .ok (.aload_n 0, 1) := by decide +kernel
theorem dX0_init_32 : decode cX0_init 32 = .ok (.sipush 160, 3) := by decide +kernel
theorem dX0_init_35 : decode cX0_init 35 = .ok (.newarray .short, 2) := by decide +kernel
theorem dX0_init_37 : decode cX0_init 37 = .ok (.putfield 21, 3) := by decide +kernel
theorem dX0_init_40 : decode cX0_init 40 = .ok (.aload_n 0, 1) := by decide +kernel
theorem dX0_init_41 : decode cX0_init 41 = .ok (.bipush 12, 2) := by decide +kernel
theorem dX0_init_43 : decode cX0_init 43 = .ok (.newarray .int, 2) := by decide +kernel
theorem dX0_init_45 : decode cX0_init 45 = .ok (.putfield 25, 3) := by decide +kernel
theorem dX0_init_48 : decode cX0_init 48 = .ok (.aload_n 0, 1) := by decide +kernel
theorem dX0_init_49 : decode cX0_init 49 = .ok (.bipush 12, 2) := by decide +kernel
theorem dX0_init_51 : decode cX0_init 51 = .ok (.newarray .int, 2) := by decide +kernel
theorem dX0_init_53 : decode cX0_init 53 = .ok (.putfield 29, 3) := by decide +kernel
theorem dX0_init_56 : decode cX0_init 56 = .ok (.aload_n 0, 1) := by decide +kernel
theorem dX0_init_57 : decode cX0_init 57 = .ok (.bipush 7, 2) := by decide +kernel
theorem dX0_init_59 : decode cX0_init 59 = .ok (.newarray .int, 2) := by decide +kernel
theorem dX0_init_61 : decode cX0_init 61 = .ok (.putfield 32, 3) := by decide +kernel
theorem dX0_init_64 : decode cX0_init 64 = .ok (.aload_n 0, 1) := by decide +kernel
theorem dX0_init_65 : decode cX0_init 65 = .ok (.bipush 7, 2) := by decide +kernel
theorem dX0_init_67 : decode cX0_init 67 = .ok (.newarray .int, 2) := by decide +kernel
theorem dX0_init_69 : decode cX0_init 69 = .ok (.putfield 35, 3) := by decide +kernel
theorem dX0_init_72 : decode cX0_init 72 = .ok (.aload_n 0, 1) := by decide +kernel
theorem dX0_init_73 : decode cX0_init 73 = .ok (.iconst 5, 1) := by decide +kernel
theorem dX0_init_74 : decode cX0_init 74 = .ok (.putfield 38, 3) := by decide +kernel
theorem dX0_init_77 : decode cX0_init 77 = .ok (.aload_n 0, 1) := by decide +kernel
theorem dX0_init_78 : decode cX0_init 78 = .ok (.bipush 31, 2) := by decide +kernel
theorem dX0_init_80 : decode cX0_init 80 = .ok (.putfield 42, 3) := by decide +kernel
theorem dX0_init_83 : decode cX0_init 83 = .ok (.aload_n 0, 1) := by decide +kernel
theorem dX0_init_84 : decode cX0_init 84 = .ok (.sipush 999, 3) := by decide +kernel
theorem dX0_init_87 : decode cX0_init 87 = .ok (.putfield 45, 3) := by decide +kernel
theorem dX0_init_90 : decode cX0_init 90 = .ok (.return_, 1) := by decide +kernel
theorem dX0_isFull_0 : decode cX0_isFull 0 = .ok (.aload_n 0, 1) := by decide +kernel
theorem dX0_isFull_1 : decode cX0_isFull 1 = .ok (.getfield 48, 3) := by decide +kernel
theorem dX0_isFull_4 : decode cX0_isFull 4 = .ok (.sipush 160, 3) := by decide +kernel
theorem dX0_isFull_7 : decode cX0_isFull 7 = .ok (.if_icmp .lt 7, 3) := by decide +kernel
theorem dX0_isFull_10 : decode cX0_isFull 10 = .ok (.iconst 1, 1) := by decide +kernel
theorem dX0_isFull_11 : decode cX0_isFull 11 = .ok (.goto 4, 3) := by decide +kernel
theorem dX0_isFull_14 : decode cX0_isFull 14 = .ok (.iconst 0, 1) := by decide +kernel
theorem dX0_isFull_15 : decode cX0_isFull 15 = .ok (.ireturn, 1) := by decide +kernel
theorem dX0_timeFits_0 : decode cX0_timeFits 0 = .ok (.iload_n 1, 1) := by decide +kernel
theorem dX0_timeFits_1 : decode cX0_timeFits 1 = .ok (.ifCond .lt 36, 3) := by decide +kernel
theorem dX0_timeFits_4 : decode cX0_timeFits 4 = .ok (.iload_n 1, 1) := by decide +kernel
theorem dX0_timeFits_5 : decode cX0_timeFits 5 = .ok (.sipush 999, 3) := by decide +kernel
theorem dX0_timeFits_8 : decode cX0_timeFits 8 = .ok (.if_icmp .gt 29, 3) := by decide +kernel
theorem dX0_timeFits_11 : decode cX0_timeFits 11 = .ok (.aload_n 0, 1) := by decide +kernel
theorem dX0_timeFits_12 : decode cX0_timeFits 12 = .ok (.getfield 48, 3) := by decide +kernel
theorem dX0_timeFits_15 : decode cX0_timeFits 15 = .ok (.ifCond .eq 18, 3) := by decide +kernel
theorem dX0_timeFits_18 : decode cX0_timeFits 18 = .ok (.iload_n 1, 1) := by decide +kernel
theorem dX0_timeFits_19 : decode cX0_timeFits 19 = .ok (.aload_n 0, 1) := by decide +kernel
theorem dX0_timeFits_20 : decode cX0_timeFits 20 = .ok (.getfield 21, 3) := by decide +kernel
theorem dX0_timeFits_23 : decode cX0_timeFits 23 = .ok (.aload_n 0, 1) := by decide +kernel
theorem dX0_timeFits_24 : decode cX0_timeFits 24 = .ok (.getfield 48, 3) := by decide +kernel
theorem dX0_timeFits_27 : decode cX0_timeFits 27 = .ok (.iconst 1, 1) := by decide +kernel
theorem dX0_timeFits_28 : decode cX0_timeFits 28 = .ok (.isub, 1) := by decide +kernel
theorem dX0_timeFits_29 : decode cX0_timeFits 29 = .ok (.saload, 1) := by decide +kernel
theorem dX0_timeFits_30 : decode cX0_timeFits 30 = .ok (.if_icmp .lt 7, 3) := by decide +kernel
theorem dX0_timeFits_33 : decode cX0_timeFits 33 = .ok (.iconst 1, 1) := by decide +kernel
theorem dX0_timeFits_34 : decode cX0_timeFits 34 = .ok (.goto 4, 3) := by decide +kernel
theorem dX0_timeFits_37 : decode cX0_timeFits 37 = .ok (.iconst 0, 1) := by decide +kernel
theorem dX0_timeFits_38 : decode cX0_timeFits 38 = .ok (.ireturn, 1) := by decide +kernel
theorem dX0_tell_0 : decode cX0_tell 0 = .ok (.aload_n 0, 1) := by decide +kernel
theorem dX0_tell_1 : decode cX0_tell 1 = .ok (.invokevirtual 51, 3) := by decide +kernel
theorem dX0_tell_4 : decode cX0_tell 4 = .ok (.ifCond .eq 4, 3) := by decide +kernel
theorem dX0_tell_7 : decode cX0_tell 7 = .ok (.return_, 1) := by decide +kernel
theorem dX0_tell_8 : decode cX0_tell 8 = .ok (.aload_n 0, 1) := by decide +kernel
theorem dX0_tell_9 : decode cX0_tell 9 = .ok (.getfield 9, 3) := by decide +kernel
theorem dX0_tell_12 : decode cX0_tell 12 = .ok (.aload_n 0, 1) := by decide +kernel
theorem dX0_tell_13 : decode cX0_tell 13 = .ok (.getfield 48, 3) := by decide +kernel
theorem dX0_tell_16 : decode cX0_tell 16 = .ok (.iload_n 1, 1) := by decide +kernel
theorem dX0_tell_17 : decode cX0_tell 17 = .ok (.i2b, 1) := by decide +kernel
theorem dX0_tell_18 : decode cX0_tell 18 = .ok (.bastore, 1) := by decide +kernel
theorem dX0_tell_19 : decode cX0_tell 19 = .ok (.aload_n 0, 1) := by decide +kernel
theorem dX0_tell_20 : decode cX0_tell 20 = .ok (.getfield 15, 3) := by decide +kernel
theorem dX0_tell_23 : decode cX0_tell 23 = .ok (.aload_n 0, 1) := by decide +kernel
theorem dX0_tell_24 : decode cX0_tell 24 = .ok (.getfield 48, 3) := by decide +kernel
theorem dX0_tell_27 : decode cX0_tell 27 = .ok (.iload_n 2, 1) := by decide +kernel
theorem dX0_tell_28 : decode cX0_tell 28 = .ok (.i2b, 1) := by decide +kernel
theorem dX0_tell_29 : decode cX0_tell 29 = .ok (.bastore, 1) := by decide +kernel
theorem dX0_tell_30 : decode cX0_tell 30 = .ok (.aload_n 0, 1) := by decide +kernel
theorem dX0_tell_31 : decode cX0_tell 31 = .ok (.getfield 18, 3) := by decide +kernel
theorem dX0_tell_34 : decode cX0_tell 34 = .ok (.aload_n 0, 1) := by decide +kernel
theorem dX0_tell_35 : decode cX0_tell 35 = .ok (.getfield 48, 3) := by decide +kernel
theorem dX0_tell_38 : decode cX0_tell 38 = .ok (.iload_n 3, 1) := by decide +kernel
theorem dX0_tell_39 : decode cX0_tell 39 = .ok (.i2b, 1) := by decide +kernel
theorem dX0_tell_40 : decode cX0_tell 40 = .ok (.bastore, 1) := by decide +kernel
theorem dX0_tell_41 : decode cX0_tell 41 = .ok (.aload_n 0, 1) := by decide +kernel
theorem dX0_tell_42 : decode cX0_tell 42 = .ok (.getfield 21, 3) := by decide +kernel
theorem dX0_tell_45 : decode cX0_tell 45 = .ok (.aload_n 0, 1) := by decide +kernel
theorem dX0_tell_46 : decode cX0_tell 46 = .ok (.getfield 48, 3) := by decide +kernel
theorem dX0_tell_49 : decode cX0_tell 49 = .ok (.iload 4, 2) := by decide +kernel
theorem dX0_tell_51 : decode cX0_tell 51 = .ok (.i2s, 1) := by decide +kernel
theorem dX0_tell_52 : decode cX0_tell 52 = .ok (.sastore, 1) := by decide +kernel
theorem dX0_tell_53 : decode cX0_tell 53 = .ok (.aload_n 0, 1) := by decide +kernel
theorem dX0_tell_54 : decode cX0_tell 54 = .ok (.dup, 1) := by decide +kernel
theorem dX0_tell_55 : decode cX0_tell 55 = .ok (.getfield 48, 3) := by decide +kernel
theorem dX0_tell_58 : decode cX0_tell 58 = .ok (.iconst 1, 1) := by decide +kernel
theorem dX0_tell_59 : decode cX0_tell 59 = .ok (.iadd, 1) := by decide +kernel
theorem dX0_tell_60 : decode cX0_tell 60 = .ok (.putfield 48, 3) := by decide +kernel
theorem dX0_tell_63 : decode cX0_tell 63 = .ok (.iload 4, 2) := by decide +kernel
theorem dX0_tell_65 : decode cX0_tell 65 = .ok (.aload_n 0, 1) := by decide +kernel
theorem dX0_tell_66 : decode cX0_tell 66 = .ok (.getfield 45, 3) := by decide +kernel
theorem dX0_tell_69 : decode cX0_tell 69 = .ok (.if_icmp .gt 10, 3) := by decide +kernel
theorem dX0_tell_72 : decode cX0_tell 72 = .ok (.aload_n 0, 1) := by decide +kernel
theorem dX0_tell_73 : decode cX0_tell 73 = .ok (.iload_n 1, 1) := by decide +kernel
theorem dX0_tell_74 : decode cX0_tell 74 = .ok (.iload_n 2, 1) := by decide +kernel
theorem dX0_tell_75 : decode cX0_tell 75 = .ok (.iload_n 3, 1) := by decide +kernel
theorem dX0_tell_76 : decode cX0_tell 76 = .ok (.invokevirtual 55, 3) := by decide +kernel
theorem dX0_tell_79 : decode cX0_tell 79 = .ok (.return_, 1) := by decide +kernel
theorem dX0_countAnew_0 : decode cX0_countAnew 0 = .ok (.aload_n 0, 1) := by decide +kernel
theorem dX0_countAnew_1 : decode cX0_countAnew 1 = .ok (.iload_n 1, 1) := by decide +kernel
theorem dX0_countAnew_2 : decode cX0_countAnew 2 = .ok (.putfield 38, 3) := by decide +kernel
theorem dX0_countAnew_5 : decode cX0_countAnew 5 = .ok (.aload_n 0, 1) := by decide +kernel
theorem dX0_countAnew_6 : decode cX0_countAnew 6 = .ok (.iconst 1, 1) := by decide +kernel
theorem dX0_countAnew_7 : decode cX0_countAnew 7 = .ok (.aload_n 0, 1) := by decide +kernel
theorem dX0_countAnew_8 : decode cX0_countAnew 8 = .ok (.getfield 38, 3) := by decide +kernel
theorem dX0_countAnew_11 : decode cX0_countAnew 11 = .ok (.ishl, 1) := by decide +kernel
theorem dX0_countAnew_12 : decode cX0_countAnew 12 = .ok (.iconst 1, 1) := by decide +kernel
theorem dX0_countAnew_13 : decode cX0_countAnew 13 = .ok (.isub, 1) := by decide +kernel
theorem dX0_countAnew_14 : decode cX0_countAnew 14 = .ok (.putfield 42, 3) := by decide +kernel
theorem dX0_countAnew_17 : decode cX0_countAnew 17 = .ok (.aload_n 0, 1) := by decide +kernel
theorem dX0_countAnew_18 : decode cX0_countAnew 18 = .ok (.iload_n 2, 1) := by decide +kernel
theorem dX0_countAnew_19 : decode cX0_countAnew 19 = .ok (.putfield 45, 3) := by decide +kernel
theorem dX0_countAnew_22 : decode cX0_countAnew 22 = .ok (.aload_n 0, 1) := by decide +kernel
theorem dX0_countAnew_23 : decode cX0_countAnew 23 = .ok (.getfield 25, 3) := by decide +kernel
theorem dX0_countAnew_26 : decode cX0_countAnew 26 = .ok (.iconst 0, 1) := by decide +kernel
theorem dX0_countAnew_27 : decode cX0_countAnew 27 = .ok (.invokestatic 59, 3) := by decide +kernel
theorem dX0_countAnew_30 : decode cX0_countAnew 30 = .ok (.aload_n 0, 1) := by decide +kernel
theorem dX0_countAnew_31 : decode cX0_countAnew 31 = .ok (.getfield 29, 3) := by decide +kernel
theorem dX0_countAnew_34 : decode cX0_countAnew 34 = .ok (.iconst 0, 1) := by decide +kernel
theorem dX0_countAnew_35 : decode cX0_countAnew 35 = .ok (.invokestatic 59, 3) := by decide +kernel
theorem dX0_countAnew_38 : decode cX0_countAnew 38 = .ok (.aload_n 0, 1) := by decide +kernel
theorem dX0_countAnew_39 : decode cX0_countAnew 39 = .ok (.getfield 32, 3) := by decide +kernel
theorem dX0_countAnew_42 : decode cX0_countAnew 42 = .ok (.iconst 0, 1) := by decide +kernel
theorem dX0_countAnew_43 : decode cX0_countAnew 43 = .ok (.invokestatic 59, 3) := by decide +kernel
theorem dX0_countAnew_46 : decode cX0_countAnew 46 = .ok (.aload_n 0, 1) := by decide +kernel
theorem dX0_countAnew_47 : decode cX0_countAnew 47 = .ok (.getfield 35, 3) := by decide +kernel
theorem dX0_countAnew_50 : decode cX0_countAnew 50 = .ok (.iconst 0, 1) := by decide +kernel
theorem dX0_countAnew_51 : decode cX0_countAnew 51 = .ok (.invokestatic 59, 3) := by decide +kernel
theorem dX0_countAnew_54 : decode cX0_countAnew 54 = .ok (.iconst 0, 1) := by decide +kernel
theorem dX0_countAnew_55 : decode cX0_countAnew 55 = .ok (.istore_n 3, 1) := by decide +kernel
theorem dX0_countAnew_56 : decode cX0_countAnew 56 = .ok (.iload_n 3, 1) := by decide +kernel
theorem dX0_countAnew_57 : decode cX0_countAnew 57 = .ok (.aload_n 0, 1) := by decide +kernel
theorem dX0_countAnew_58 : decode cX0_countAnew 58 = .ok (.getfield 48, 3) := by decide +kernel
theorem dX0_countAnew_61 : decode cX0_countAnew 61 = .ok (.if_icmp .ge 44, 3) := by decide +kernel
theorem dX0_countAnew_64 : decode cX0_countAnew 64 = .ok (.aload_n 0, 1) := by decide +kernel
theorem dX0_countAnew_65 : decode cX0_countAnew 65 = .ok (.getfield 21, 3) := by decide +kernel
theorem dX0_countAnew_68 : decode cX0_countAnew 68 = .ok (.iload_n 3, 1) := by decide +kernel
theorem dX0_countAnew_69 : decode cX0_countAnew 69 = .ok (.saload, 1) := by decide +kernel
theorem dX0_countAnew_70 : decode cX0_countAnew 70 = .ok (.aload_n 0, 1) := by decide +kernel
theorem dX0_countAnew_71 : decode cX0_countAnew 71 = .ok (.getfield 45, 3) := by decide +kernel
theorem dX0_countAnew_74 : decode cX0_countAnew 74 = .ok (.if_icmp .gt 31, 3) := by decide +kernel
theorem dX0_countAnew_77 : decode cX0_countAnew 77 = .ok (.aload_n 0, 1) := by decide +kernel
theorem dX0_countAnew_78 : decode cX0_countAnew 78 = .ok (.aload_n 0, 1) := by decide +kernel
theorem dX0_countAnew_79 : decode cX0_countAnew 79 = .ok (.getfield 9, 3) := by decide +kernel
theorem dX0_countAnew_82 : decode cX0_countAnew 82 = .ok (.iload_n 3, 1) := by decide +kernel
theorem dX0_countAnew_83 : decode cX0_countAnew 83 = .ok (.baload, 1) := by decide +kernel
theorem dX0_countAnew_84 : decode cX0_countAnew 84 = .ok (.aload_n 0, 1) := by decide +kernel
theorem dX0_countAnew_85 : decode cX0_countAnew 85 = .ok (.getfield 15, 3) := by decide +kernel
theorem dX0_countAnew_88 : decode cX0_countAnew 88 = .ok (.iload_n 3, 1) := by decide +kernel
theorem dX0_countAnew_89 : decode cX0_countAnew 89 = .ok (.baload, 1) := by decide +kernel
theorem dX0_countAnew_90 : decode cX0_countAnew 90 = .ok (.aload_n 0, 1) := by decide +kernel
theorem dX0_countAnew_91 : decode cX0_countAnew 91 = .ok (.getfield 18, 3) := by decide +kernel
theorem dX0_countAnew_94 : decode cX0_countAnew 94 = .ok (.iload_n 3, 1) := by decide +kernel
theorem dX0_countAnew_95 : decode cX0_countAnew 95 = .ok (.baload, 1) := by decide +kernel
theorem dX0_countAnew_96 : decode cX0_countAnew 96 = .ok (.invokevirtual 55, 3) := by decide +kernel
theorem dX0_countAnew_99 : decode cX0_countAnew 99 = .ok (.iinc 3 1, 3) := by decide +kernel
theorem dX0_countAnew_102 : decode cX0_countAnew 102 = .ok (.goto (-46), 3) := by decide +kernel
theorem dX0_countAnew_105 : decode cX0_countAnew 105 = .ok (.return_, 1) := by decide +kernel
theorem dX0_hear_0 : decode cX0_hear 0 = .ok (.aload_n 0, 1) := by decide +kernel
theorem dX0_hear_1 : decode cX0_hear 1 = .ok (.getfield 25, 3) := by decide +kernel
theorem dX0_hear_4 : decode cX0_hear 4 = .ok (.iload_n 1, 1) := by decide +kernel
theorem dX0_hear_5 : decode cX0_hear 5 = .ok (.aload_n 0, 1) := by decide +kernel
theorem dX0_hear_6 : decode cX0_hear 6 = .ok (.getfield 25, 3) := by decide +kernel
theorem dX0_hear_9 : decode cX0_hear 9 = .ok (.iload_n 1, 1) := by decide +kernel
theorem dX0_hear_10 : decode cX0_hear 10 = .ok (.iaload, 1) := by decide +kernel
theorem dX0_hear_11 : decode cX0_hear 11 = .ok (.iload_n 2, 1) := by decide +kernel
theorem dX0_hear_12 : decode cX0_hear 12 = .ok (.iload_n 3, 1) := by decide +kernel
theorem dX0_hear_13 : decode cX0_hear 13 = .ok (.iconst 1, 1) := by decide +kernel
theorem dX0_hear_14 : decode cX0_hear 14 = .ok (.if_icmp .ne 7, 3) := by decide +kernel
theorem dX0_hear_17 : decode cX0_hear 17 = .ok (.iconst 1, 1) := by decide +kernel
theorem dX0_hear_18 : decode cX0_hear 18 = .ok (.goto 4, 3) := by decide +kernel
theorem dX0_hear_21 : decode cX0_hear 21 = .ok (.iconst 0, 1) := by decide +kernel
theorem dX0_hear_22 : decode cX0_hear 22 = .ok (.invokestatic 65, 3) := by decide +kernel
theorem dX0_hear_25 : decode cX0_hear 25 = .ok (.iastore, 1) := by decide +kernel
theorem dX0_hear_26 : decode cX0_hear 26 = .ok (.aload_n 0, 1) := by decide +kernel
theorem dX0_hear_27 : decode cX0_hear 27 = .ok (.getfield 29, 3) := by decide +kernel
theorem dX0_hear_30 : decode cX0_hear 30 = .ok (.iload_n 1, 1) := by decide +kernel
theorem dX0_hear_31 : decode cX0_hear 31 = .ok (.aload_n 0, 1) := by decide +kernel
theorem dX0_hear_32 : decode cX0_hear 32 = .ok (.getfield 29, 3) := by decide +kernel
theorem dX0_hear_35 : decode cX0_hear 35 = .ok (.iload_n 1, 1) := by decide +kernel
theorem dX0_hear_36 : decode cX0_hear 36 = .ok (.iaload, 1) := by decide +kernel
theorem dX0_hear_37 : decode cX0_hear 37 = .ok (.iload_n 2, 1) := by decide +kernel
theorem dX0_hear_38 : decode cX0_hear 38 = .ok (.iload_n 3, 1) := by decide +kernel
theorem dX0_hear_39 : decode cX0_hear 39 = .ok (.ifCond .ne 7, 3) := by decide +kernel
theorem dX0_hear_42 : decode cX0_hear 42 = .ok (.iconst 1, 1) := by decide +kernel
theorem dX0_hear_43 : decode cX0_hear 43 = .ok (.goto 4, 3) := by decide +kernel
theorem dX0_hear_46 : decode cX0_hear 46 = .ok (.iconst 0, 1) := by decide +kernel
theorem dX0_hear_47 : decode cX0_hear 47 = .ok (.invokestatic 65, 3) := by decide +kernel
theorem dX0_hear_50 : decode cX0_hear 50 = .ok (.iastore, 1) := by decide +kernel
theorem dX0_hear_51 : decode cX0_hear 51 = .ok (.aload_n 0, 1) := by decide +kernel
theorem dX0_hear_52 : decode cX0_hear 52 = .ok (.getfield 32, 3) := by decide +kernel
theorem dX0_hear_55 : decode cX0_hear 55 = .ok (.iload_n 2, 1) := by decide +kernel
theorem dX0_hear_56 : decode cX0_hear 56 = .ok (.aload_n 0, 1) := by decide +kernel
theorem dX0_hear_57 : decode cX0_hear 57 = .ok (.getfield 32, 3) := by decide +kernel
theorem dX0_hear_60 : decode cX0_hear 60 = .ok (.iload_n 2, 1) := by decide +kernel
theorem dX0_hear_61 : decode cX0_hear 61 = .ok (.iaload, 1) := by decide +kernel
theorem dX0_hear_62 : decode cX0_hear 62 = .ok (.iload_n 1, 1) := by decide +kernel
theorem dX0_hear_63 : decode cX0_hear 63 = .ok (.iload_n 3, 1) := by decide +kernel
theorem dX0_hear_64 : decode cX0_hear 64 = .ok (.iconst 1, 1) := by decide +kernel
theorem dX0_hear_65 : decode cX0_hear 65 = .ok (.if_icmp .ne 7, 3) := by decide +kernel
theorem dX0_hear_68 : decode cX0_hear 68 = .ok (.iconst 1, 1) := by decide +kernel
theorem dX0_hear_69 : decode cX0_hear 69 = .ok (.goto 4, 3) := by decide +kernel
theorem dX0_hear_72 : decode cX0_hear 72 = .ok (.iconst 0, 1) := by decide +kernel
theorem dX0_hear_73 : decode cX0_hear 73 = .ok (.invokestatic 65, 3) := by decide +kernel
theorem dX0_hear_76 : decode cX0_hear 76 = .ok (.iastore, 1) := by decide +kernel
theorem dX0_hear_77 : decode cX0_hear 77 = .ok (.aload_n 0, 1) := by decide +kernel
theorem dX0_hear_78 : decode cX0_hear 78 = .ok (.getfield 35, 3) := by decide +kernel
theorem dX0_hear_81 : decode cX0_hear 81 = .ok (.iload_n 2, 1) := by decide +kernel
theorem dX0_hear_82 : decode cX0_hear 82 = .ok (.aload_n 0, 1) := by decide +kernel
theorem dX0_hear_83 : decode cX0_hear 83 = .ok (.getfield 35, 3) := by decide +kernel
theorem dX0_hear_86 : decode cX0_hear 86 = .ok (.iload_n 2, 1) := by decide +kernel
theorem dX0_hear_87 : decode cX0_hear 87 = .ok (.iaload, 1) := by decide +kernel
theorem dX0_hear_88 : decode cX0_hear 88 = .ok (.iload_n 1, 1) := by decide +kernel
theorem dX0_hear_89 : decode cX0_hear 89 = .ok (.iload_n 3, 1) := by decide +kernel
theorem dX0_hear_90 : decode cX0_hear 90 = .ok (.ifCond .ne 7, 3) := by decide +kernel
theorem dX0_hear_93 : decode cX0_hear 93 = .ok (.iconst 1, 1) := by decide +kernel
theorem dX0_hear_94 : decode cX0_hear 94 = .ok (.goto 4, 3) := by decide +kernel
theorem dX0_hear_97 : decode cX0_hear 97 = .ok (.iconst 0, 1) := by decide +kernel
theorem dX0_hear_98 : decode cX0_hear 98 = .ok (.invokestatic 65, 3) := by decide +kernel
theorem dX0_hear_101 : decode cX0_hear 101 = .ok (.iastore, 1) := by decide +kernel
theorem dX0_hear_102 : decode cX0_hear 102 = .ok (.return_, 1) := by decide +kernel
theorem dX0_withBit_0 : decode cX0_withBit 0 = .ok (.iconst 1, 1) := by decide +kernel
theorem dX0_withBit_1 : decode cX0_withBit 1 = .ok (.iload_n 1, 1) := by decide +kernel
theorem dX0_withBit_2 : decode cX0_withBit 2 = .ok (.ishl, 1) := by decide +kernel
theorem dX0_withBit_3 : decode cX0_withBit 3 = .ok (.istore_n 3, 1) := by decide +kernel
theorem dX0_withBit_4 : decode cX0_withBit 4 = .ok (.iload_n 2, 1) := by decide +kernel
theorem dX0_withBit_5 : decode cX0_withBit 5 = .ok (.ifCond .eq 9, 3) := by decide +kernel
theorem dX0_withBit_8 : decode cX0_withBit 8 = .ok (.iload_n 0, 1) := by decide +kernel
theorem dX0_withBit_9 : decode cX0_withBit 9 = .ok (.iload_n 3, 1) := by decide +kernel
theorem dX0_withBit_10 : decode cX0_withBit 10 = .ok (.ior, 1) := by decide +kernel
theorem dX0_withBit_11 : decode cX0_withBit 11 = .ok (.goto 8, 3) := by decide +kernel
theorem dX0_withBit_14 : decode cX0_withBit 14 = .ok (.iload_n 0, 1) := by decide +kernel
theorem dX0_withBit_15 : decode cX0_withBit 15 = .ok (.iload_n 3, 1) := by decide +kernel
theorem dX0_withBit_16 : decode cX0_withBit 16 = .ok (.iconst (-1), 1) := by decide +kernel
theorem dX0_withBit_17 : decode cX0_withBit 17 = .ok (.ixor, 1) := by decide +kernel
theorem dX0_withBit_18 : decode cX0_withBit 18 = .ok (.iand, 1) := by decide +kernel
theorem dX0_withBit_19 : decode cX0_withBit 19 = .ok (.ireturn, 1) := by decide +kernel
theorem dX0_heard_0 : decode cX0_heard 0 = .ok (.iconst 1, 1) := by decide +kernel
theorem dX0_heard_1 : decode cX0_heard 1 = .ok (.iload_n 2, 1) := by decide +kernel
theorem dX0_heard_2 : decode cX0_heard 2 = .ok (.ishl, 1) := by decide +kernel
theorem dX0_heard_3 : decode cX0_heard 3 = .ok (.istore_n 3, 1) := by decide +kernel
theorem dX0_heard_4 : decode cX0_heard 4 = .ok (.aload_n 0, 1) := by decide +kernel
theorem dX0_heard_5 : decode cX0_heard 5 = .ok (.getfield 25, 3) := by decide +kernel
theorem dX0_heard_8 : decode cX0_heard 8 = .ok (.iload_n 1, 1) := by decide +kernel
theorem dX0_heard_9 : decode cX0_heard 9 = .ok (.iaload, 1) := by decide +kernel
theorem dX0_heard_10 : decode cX0_heard 10 = .ok (.iload_n 3, 1) := by decide +kernel
theorem dX0_heard_11 : decode cX0_heard 11 = .ok (.iand, 1) := by decide +kernel
theorem dX0_heard_12 : decode cX0_heard 12 = .ok (.ifCond .eq 5, 3) := by decide +kernel
theorem dX0_heard_15 : decode cX0_heard 15 = .ok (.iconst 1, 1) := by decide +kernel
theorem dX0_heard_16 : decode cX0_heard 16 = .ok (.ireturn, 1) := by decide +kernel
theorem dX0_heard_17 : decode cX0_heard 17 = .ok (.aload_n 0, 1) := by decide +kernel
theorem dX0_heard_18 : decode cX0_heard 18 = .ok (.getfield 29, 3) := by decide +kernel
theorem dX0_heard_21 : decode cX0_heard 21 = .ok (.iload_n 1, 1) := by decide +kernel
theorem dX0_heard_22 : decode cX0_heard 22 = .ok (.iaload, 1) := by decide +kernel
theorem dX0_heard_23 : decode cX0_heard 23 = .ok (.iload_n 3, 1) := by decide +kernel
theorem dX0_heard_24 : decode cX0_heard 24 = .ok (.iand, 1) := by decide +kernel
theorem dX0_heard_25 : decode cX0_heard 25 = .ok (.ifCond .eq 7, 3) := by decide +kernel
theorem dX0_heard_28 : decode cX0_heard 28 = .ok (.iconst 0, 1) := by decide +kernel
theorem dX0_heard_29 : decode cX0_heard 29 = .ok (.goto 4, 3) := by decide +kernel
theorem dX0_heard_32 : decode cX0_heard 32 = .ok (.iconst 2, 1) := by decide +kernel
theorem dX0_heard_33 : decode cX0_heard 33 = .ok (.ireturn, 1) := by decide +kernel
theorem dX0_yesOf_0 : decode cX0_yesOf 0 = .ok (.aload_n 0, 1) := by decide +kernel
theorem dX0_yesOf_1 : decode cX0_yesOf 1 = .ok (.getfield 25, 3) := by decide +kernel
theorem dX0_yesOf_4 : decode cX0_yesOf 4 = .ok (.iload_n 1, 1) := by decide +kernel
theorem dX0_yesOf_5 : decode cX0_yesOf 5 = .ok (.iaload, 1) := by decide +kernel
theorem dX0_yesOf_6 : decode cX0_yesOf 6 = .ok (.aload_n 0, 1) := by decide +kernel
theorem dX0_yesOf_7 : decode cX0_yesOf 7 = .ok (.getfield 42, 3) := by decide +kernel
theorem dX0_yesOf_10 : decode cX0_yesOf 10 = .ok (.iand, 1) := by decide +kernel
theorem dX0_yesOf_11 : decode cX0_yesOf 11 = .ok (.ireturn, 1) := by decide +kernel
theorem dX0_noOf_0 : decode cX0_noOf 0 = .ok (.aload_n 0, 1) := by decide +kernel
theorem dX0_noOf_1 : decode cX0_noOf 1 = .ok (.getfield 29, 3) := by decide +kernel
theorem dX0_noOf_4 : decode cX0_noOf 4 = .ok (.iload_n 1, 1) := by decide +kernel
theorem dX0_noOf_5 : decode cX0_noOf 5 = .ok (.iaload, 1) := by decide +kernel
theorem dX0_noOf_6 : decode cX0_noOf 6 = .ok (.aload_n 0, 1) := by decide +kernel
theorem dX0_noOf_7 : decode cX0_noOf 7 = .ok (.getfield 42, 3) := by decide +kernel
theorem dX0_noOf_10 : decode cX0_noOf 10 = .ok (.iand, 1) := by decide +kernel
theorem dX0_noOf_11 : decode cX0_noOf 11 = .ok (.ireturn, 1) := by decide +kernel
theorem dX0_given_0 : decode cX0_given 0 = .ok (.aload_n 0, 1) := by decide +kernel
theorem dX0_given_1 : decode cX0_given 1 = .ok (.iload_n 1, 1) := by decide +kernel
theorem dX0_given_2 : decode cX0_given 2 = .ok (.invokevirtual 69, 3) := by decide +kernel
theorem dX0_given_5 : decode cX0_given 5 = .ok (.aload_n 0, 1) := by decide +kernel
theorem dX0_given_6 : decode cX0_given 6 = .ok (.iload_n 1, 1) := by decide +kernel
theorem dX0_given_7 : decode cX0_given 7 = .ok (.invokevirtual 73, 3) := by decide +kernel
theorem dX0_given_10 : decode cX0_given 10 = .ok (.ior, 1) := by decide +kernel
theorem dX0_given_11 : decode cX0_given 11 = .ok (.invokestatic 76, 3) := by decide +kernel
theorem dX0_given_14 : decode cX0_given 14 = .ok (.ireturn, 1) := by decide +kernel
theorem dX0_givenByAll_0 : decode cX0_givenByAll 0 = .ok (.iconst 0, 1) := by decide +kernel
theorem dX0_givenByAll_1 : decode cX0_givenByAll 1 = .ok (.istore_n 1, 1) := by decide +kernel
theorem dX0_givenByAll_2 : decode cX0_givenByAll 2 = .ok (.iconst 0, 1) := by decide +kernel
theorem dX0_givenByAll_3 : decode cX0_givenByAll 3 = .ok (.istore_n 2, 1) := by decide +kernel
theorem dX0_givenByAll_4 : decode cX0_givenByAll 4 = .ok (.iload_n 2, 1) := by decide +kernel
theorem dX0_givenByAll_5 : decode cX0_givenByAll 5 = .ok (.bipush 12, 2) := by decide +kernel
theorem dX0_givenByAll_7 : decode cX0_givenByAll 7 = .ok (.if_icmp .ge 17, 3) := by decide +kernel
theorem dX0_givenByAll_10 : decode cX0_givenByAll 10 = .ok (.iload_n 1, 1) := by decide +kernel
theorem dX0_givenByAll_11 : decode cX0_givenByAll 11 = .ok (.aload_n 0, 1) := by decide +kernel
theorem dX0_givenByAll_12 : decode cX0_givenByAll 12 = .ok (.iload_n 2, 1) := by decide +kernel
theorem dX0_givenByAll_13 : decode cX0_givenByAll 13 = .ok (.invokevirtual 81, 3) := by decide +kernel
theorem dX0_givenByAll_16 : decode cX0_givenByAll 16 = .ok (.iadd, 1) := by decide +kernel
theorem dX0_givenByAll_17 : decode cX0_givenByAll 17 = .ok (.istore_n 1, 1) := by decide +kernel
theorem dX0_givenByAll_18 : decode cX0_givenByAll 18 = .ok (.iinc 2 1, 3) := by decide +kernel
theorem dX0_givenByAll_21 : decode cX0_givenByAll 21 = .ok (.goto (-17), 3) := by decide +kernel
theorem dX0_givenByAll_24 : decode cX0_givenByAll 24 = .ok (.iload_n 1, 1) := by decide +kernel
theorem dX0_givenByAll_25 : decode cX0_givenByAll 25 = .ok (.ireturn, 1) := by decide +kernel
theorem dX0_yesByAll_0 : decode cX0_yesByAll 0 = .ok (.iconst 0, 1) := by decide +kernel
theorem dX0_yesByAll_1 : decode cX0_yesByAll 1 = .ok (.istore_n 1, 1) := by decide +kernel
theorem dX0_yesByAll_2 : decode cX0_yesByAll 2 = .ok (.iconst 0, 1) := by decide +kernel
theorem dX0_yesByAll_3 : decode cX0_yesByAll 3 = .ok (.istore_n 2, 1) := by decide +kernel
theorem dX0_yesByAll_4 : decode cX0_yesByAll 4 = .ok (.iload_n 2, 1) := by decide +kernel
theorem dX0_yesByAll_5 : decode cX0_yesByAll 5 = .ok (.bipush 12, 2) := by decide +kernel
theorem dX0_yesByAll_7 : decode cX0_yesByAll 7 = .ok (.if_icmp .ge 20, 3) := by decide +kernel
theorem dX0_yesByAll_10 : decode cX0_yesByAll 10 = .ok (.iload_n 1, 1) := by decide +kernel
theorem dX0_yesByAll_11 : decode cX0_yesByAll 11 = .ok (.aload_n 0, 1) := by decide +kernel
theorem dX0_yesByAll_12 : decode cX0_yesByAll 12 = .ok (.iload_n 2, 1) := by decide +kernel
theorem dX0_yesByAll_13 : decode cX0_yesByAll 13 = .ok (.invokevirtual 69, 3) := by decide +kernel
theorem dX0_yesByAll_16 : decode cX0_yesByAll 16 = .ok (.invokestatic 76, 3) := by decide +kernel
theorem dX0_yesByAll_19 : decode cX0_yesByAll 19 = .ok (.iadd, 1) := by decide +kernel
theorem dX0_yesByAll_20 : decode cX0_yesByAll 20 = .ok (.istore_n 1, 1) := by decide +kernel
theorem dX0_yesByAll_21 : decode cX0_yesByAll 21 = .ok (.iinc 2 1, 3) := by decide +kernel
theorem dX0_yesByAll_24 : decode cX0_yesByAll 24 = .ok (.goto (-20), 3) := by decide +kernel
theorem dX0_yesByAll_27 : decode cX0_yesByAll 27 = .ok (.iload_n 1, 1) := by decide +kernel
theorem dX0_yesByAll_28 : decode cX0_yesByAll 28 = .ok (.ireturn, 1) := by decide +kernel
theorem dX0_pupilsWithSome_0 : decode cX0_pupilsWithSome 0 = .ok (.iconst 0, 1) := by decide +kernel
theorem dX0_pupilsWithSome_1 : decode cX0_pupilsWithSome 1 = .ok (.istore_n 1, 1) := by decide +kernel
theorem dX0_pupilsWithSome_2 : decode cX0_pupilsWithSome 2 = .ok (.iconst 0, 1) := by decide +kernel
theorem dX0_pupilsWithSome_3 : decode cX0_pupilsWithSome 3 = .ok (.istore_n 2, 1) := by decide +kernel
theorem dX0_pupilsWithSome_4 : decode cX0_pupilsWithSome 4 = .ok (.iload_n 2, 1) := by decide +kernel
theorem dX0_pupilsWithSome_5 : decode cX0_pupilsWithSome 5 = .ok (.bipush 12, 2) := by decide +kernel
theorem dX0_pupilsWithSome_7 : decode cX0_pupilsWithSome 7 = .ok (.if_icmp .ge 25, 3) := by decide +kernel
theorem dX0_pupilsWithSome_10 : decode cX0_pupilsWithSome 10 = .ok (.iload_n 1, 1) := by decide +kernel
theorem dX0_pupilsWithSome_11 : decode cX0_pupilsWithSome 11 = .ok (.aload_n 0, 1) := by decide +kernel
theorem dX0_pupilsWithSome_12 : decode cX0_pupilsWithSome 12 = .ok (.iload_n 2, 1) := by decide +kernel
theorem dX0_pupilsWithSome_13 : decode cX0_pupilsWithSome 13 = .ok (.invokevirtual 81, 3) := by decide +kernel
theorem dX0_pupilsWithSome_16 : decode cX0_pupilsWithSome 16 = .ok (.ifCond .le 7, 3) := by decide +kernel
theorem dX0_pupilsWithSome_19 : decode cX0_pupilsWithSome 19 = .ok (.iconst 1, 1) := by decide +kernel
theorem dX0_pupilsWithSome_20 : decode cX0_pupilsWithSome 20 = .ok (.goto 4, 3) := by decide +kernel
theorem dX0_pupilsWithSome_23 : decode cX0_pupilsWithSome 23 = .ok (.iconst 0, 1) := by decide +kernel
theorem dX0_pupilsWithSome_24 : decode cX0_pupilsWithSome 24 = .ok (.iadd, 1) := by decide +kernel
theorem dX0_pupilsWithSome_25 : decode cX0_pupilsWithSome 25 = .ok (.istore_n 1, 1) := by decide +kernel
theorem dX0_pupilsWithSome_26 : decode cX0_pupilsWithSome 26 = .ok (.iinc 2 1, 3) := by decide +kernel
theorem dX0_pupilsWithSome_29 : decode cX0_pupilsWithSome 29 = .ok (.goto (-25), 3) := by decide +kernel
theorem dX0_pupilsWithSome_32 : decode cX0_pupilsWithSome 32 = .ok (.iload_n 1, 1) := by decide +kernel
theorem dX0_pupilsWithSome_33 : decode cX0_pupilsWithSome 33 = .ok (.ireturn, 1) := by decide +kernel
theorem dX0_largerShares_0 : decode cX0_largerShares 0 = .ok (.iconst 0, 1) := by decide +kernel
theorem dX0_largerShares_1 : decode cX0_largerShares 1 = .ok (.istore_n 1, 1) := by decide +kernel
theorem dX0_largerShares_2 : decode cX0_largerShares 2 = .ok (.iconst 0, 1) := by decide +kernel
theorem dX0_largerShares_3 : decode cX0_largerShares 3 = .ok (.istore_n 2, 1) := by decide +kernel
theorem dX0_largerShares_4 : decode cX0_largerShares 4 = .ok (.iload_n 2, 1) := by decide +kernel
theorem dX0_largerShares_5 : decode cX0_largerShares 5 = .ok (.aload_n 0, 1) := by decide +kernel
theorem dX0_largerShares_6 : decode cX0_largerShares 6 = .ok (.getfield 38, 3) := by decide +kernel
theorem dX0_largerShares_9 : decode cX0_largerShares 9 = .ok (.if_icmp .ge 33, 3) := by decide +kernel
theorem dX0_largerShares_12 : decode cX0_largerShares 12 = .ok (.iload_n 1, 1) := by decide +kernel
theorem dX0_largerShares_13 : decode cX0_largerShares 13 = .ok (.aload_n 0, 1) := by decide +kernel
theorem dX0_largerShares_14 : decode cX0_largerShares 14 = .ok (.getfield 32, 3) := by decide +kernel
theorem dX0_largerShares_17 : decode cX0_largerShares 17 = .ok (.iload_n 2, 1) := by decide +kernel
theorem dX0_largerShares_18 : decode cX0_largerShares 18 = .ok (.iaload, 1) := by decide +kernel
theorem dX0_largerShares_19 : decode cX0_largerShares 19 = .ok (.invokestatic 76, 3) := by decide +kernel
theorem dX0_largerShares_22 : decode cX0_largerShares 22 = .ok (.aload_n 0, 1) := by decide +kernel
theorem dX0_largerShares_23 : decode cX0_largerShares 23 = .ok (.getfield 35, 3) := by decide +kernel
theorem dX0_largerShares_26 : decode cX0_largerShares 26 = .ok (.iload_n 2, 1) := by decide +kernel
theorem dX0_largerShares_27 : decode cX0_largerShares 27 = .ok (.iaload, 1) := by decide +kernel
theorem dX0_largerShares_28 : decode cX0_largerShares 28 = .ok (.invokestatic 76, 3) := by decide +kernel
theorem dX0_largerShares_31 : decode cX0_largerShares 31 = .ok (.invokestatic 84, 3) := by decide +kernel
theorem dX0_largerShares_34 : decode cX0_largerShares 34 = .ok (.iadd, 1) := by decide +kernel
theorem dX0_largerShares_35 : decode cX0_largerShares 35 = .ok (.istore_n 1, 1) := by decide +kernel
theorem dX0_largerShares_36 : decode cX0_largerShares 36 = .ok (.iinc 2 1, 3) := by decide +kernel
theorem dX0_largerShares_39 : decode cX0_largerShares 39 = .ok (.goto (-35), 3) := by decide +kernel
theorem dX0_largerShares_42 : decode cX0_largerShares 42 = .ok (.iload_n 1, 1) := by decide +kernel
theorem dX0_largerShares_43 : decode cX0_largerShares 43 = .ok (.ireturn, 1) := by decide +kernel
theorem dX0_foundFor_0 : decode cX0_foundFor 0 = .ok (.iconst 0, 1) := by decide +kernel
theorem dX0_foundFor_1 : decode cX0_foundFor 1 = .ok (.istore_n 3, 1) := by decide +kernel
theorem dX0_foundFor_2 : decode cX0_foundFor 2 = .ok (.iconst 0, 1) := by decide +kernel
theorem dX0_foundFor_3 : decode cX0_foundFor 3 = .ok (.istore 4, 2) := by decide +kernel
theorem dX0_foundFor_5 : decode cX0_foundFor 5 = .ok (.iload 4, 2) := by decide +kernel
theorem dX0_foundFor_7 : decode cX0_foundFor 7 = .ok (.aload_n 0, 1) := by decide +kernel
theorem dX0_foundFor_8 : decode cX0_foundFor 8 = .ok (.getfield 38, 3) := by decide +kernel
theorem dX0_foundFor_11 : decode cX0_foundFor 11 = .ok (.if_icmp .ge 73, 3) := by decide +kernel
theorem dX0_foundFor_14 : decode cX0_foundFor 14 = .ok (.aload_n 0, 1) := by decide +kernel
theorem dX0_foundFor_15 : decode cX0_foundFor 15 = .ok (.getfield 32, 3) := by decide +kernel
theorem dX0_foundFor_18 : decode cX0_foundFor 18 = .ok (.iload_n 1, 1) := by decide +kernel
theorem dX0_foundFor_19 : decode cX0_foundFor 19 = .ok (.iaload, 1) := by decide +kernel
theorem dX0_foundFor_20 : decode cX0_foundFor 20 = .ok (.aload_n 0, 1) := by decide +kernel
theorem dX0_foundFor_21 : decode cX0_foundFor 21 = .ok (.getfield 35, 3) := by decide +kernel
theorem dX0_foundFor_24 : decode cX0_foundFor 24 = .ok (.iload 4, 2) := by decide +kernel
theorem dX0_foundFor_26 : decode cX0_foundFor 26 = .ok (.iaload, 1) := by decide +kernel
theorem dX0_foundFor_27 : decode cX0_foundFor 27 = .ok (.iand, 1) := by decide +kernel
theorem dX0_foundFor_28 : decode cX0_foundFor 28 = .ok (.invokestatic 76, 3) := by decide +kernel
theorem dX0_foundFor_31 : decode cX0_foundFor 31 = .ok (.istore 5, 2) := by decide +kernel
theorem dX0_foundFor_33 : decode cX0_foundFor 33 = .ok (.aload_n 0, 1) := by decide +kernel
theorem dX0_foundFor_34 : decode cX0_foundFor 34 = .ok (.getfield 35, 3) := by decide +kernel
theorem dX0_foundFor_37 : decode cX0_foundFor 37 = .ok (.iload_n 1, 1) := by decide +kernel
theorem dX0_foundFor_38 : decode cX0_foundFor 38 = .ok (.iaload, 1) := by decide +kernel
theorem dX0_foundFor_39 : decode cX0_foundFor 39 = .ok (.aload_n 0, 1) := by decide +kernel
theorem dX0_foundFor_40 : decode cX0_foundFor 40 = .ok (.getfield 32, 3) := by decide +kernel
theorem dX0_foundFor_43 : decode cX0_foundFor 43 = .ok (.iload 4, 2) := by decide +kernel
theorem dX0_foundFor_45 : decode cX0_foundFor 45 = .ok (.iaload, 1) := by decide +kernel
theorem dX0_foundFor_46 : decode cX0_foundFor 46 = .ok (.iand, 1) := by decide +kernel
theorem dX0_foundFor_47 : decode cX0_foundFor 47 = .ok (.invokestatic 76, 3) := by decide +kernel
theorem dX0_foundFor_50 : decode cX0_foundFor 50 = .ok (.istore 6, 2) := by decide +kernel
theorem dX0_foundFor_52 : decode cX0_foundFor 52 = .ok (.iload 4, 2) := by decide +kernel
theorem dX0_foundFor_54 : decode cX0_foundFor 54 = .ok (.iload_n 1, 1) := by decide +kernel
theorem dX0_foundFor_55 : decode cX0_foundFor 55 = .ok (.if_icmp .eq 23, 3) := by decide +kernel
theorem dX0_foundFor_58 : decode cX0_foundFor 58 = .ok (.iload 5, 2) := by decide +kernel
theorem dX0_foundFor_60 : decode cX0_foundFor 60 = .ok (.iload_n 2, 1) := by decide +kernel
theorem dX0_foundFor_61 : decode cX0_foundFor 61 = .ok (.if_icmp .gt 17, 3) := by decide +kernel
theorem dX0_foundFor_64 : decode cX0_foundFor 64 = .ok (.iload 5, 2) := by decide +kernel
theorem dX0_foundFor_66 : decode cX0_foundFor 66 = .ok (.iload 6, 2) := by decide +kernel
theorem dX0_foundFor_68 : decode cX0_foundFor 68 = .ok (.if_icmp .ge 10, 3) := by decide +kernel
theorem dX0_foundFor_71 : decode cX0_foundFor 71 = .ok (.iload_n 3, 1) := by decide +kernel
theorem dX0_foundFor_72 : decode cX0_foundFor 72 = .ok (.iconst 1, 1) := by decide +kernel
theorem dX0_foundFor_73 : decode cX0_foundFor 73 = .ok (.iload 4, 2) := by decide +kernel
theorem dX0_foundFor_75 : decode cX0_foundFor 75 = .ok (.ishl, 1) := by decide +kernel
theorem dX0_foundFor_76 : decode cX0_foundFor 76 = .ok (.ior, 1) := by decide +kernel
theorem dX0_foundFor_77 : decode cX0_foundFor 77 = .ok (.istore_n 3, 1) := by decide +kernel
theorem dX0_foundFor_78 : decode cX0_foundFor 78 = .ok (.iinc 4 1, 3) := by decide +kernel
theorem dX0_foundFor_81 : decode cX0_foundFor 81 = .ok (.goto (-76), 3) := by decide +kernel
theorem dX0_foundFor_84 : decode cX0_foundFor 84 = .ok (.iload_n 3, 1) := by decide +kernel
theorem dX0_foundFor_85 : decode cX0_foundFor 85 = .ok (.ireturn, 1) := by decide +kernel
theorem dX0_errorsWith_0 : decode cX0_errorsWith 0 = .ok (.aload_n 0, 1) := by decide +kernel
theorem dX0_errorsWith_1 : decode cX0_errorsWith 1 = .ok (.iload_n 1, 1) := by decide +kernel
theorem dX0_errorsWith_2 : decode cX0_errorsWith 2 = .ok (.invokevirtual 69, 3) := by decide +kernel
theorem dX0_errorsWith_5 : decode cX0_errorsWith 5 = .ok (.iload_n 2, 1) := by decide +kernel
theorem dX0_errorsWith_6 : decode cX0_errorsWith 6 = .ok (.iconst (-1), 1) := by decide +kernel
theorem dX0_errorsWith_7 : decode cX0_errorsWith 7 = .ok (.ixor, 1) := by decide +kernel
theorem dX0_errorsWith_8 : decode cX0_errorsWith 8 = .ok (.iand, 1) := by decide +kernel
theorem dX0_errorsWith_9 : decode cX0_errorsWith 9 = .ok (.invokestatic 76, 3) := by decide +kernel
theorem dX0_errorsWith_12 : decode cX0_errorsWith 12 = .ok (.aload_n 0, 1) := by decide +kernel
theorem dX0_errorsWith_13 : decode cX0_errorsWith 13 = .ok (.iload_n 1, 1) := by decide +kernel
theorem dX0_errorsWith_14 : decode cX0_errorsWith 14 = .ok (.invokevirtual 73, 3) := by decide +kernel
theorem dX0_errorsWith_17 : decode cX0_errorsWith 17 = .ok (.iload_n 2, 1) := by decide +kernel
theorem dX0_errorsWith_18 : decode cX0_errorsWith 18 = .ok (.iand, 1) := by decide +kernel
theorem dX0_errorsWith_19 : decode cX0_errorsWith 19 = .ok (.invokestatic 76, 3) := by decide +kernel
theorem dX0_errorsWith_22 : decode cX0_errorsWith 22 = .ok (.iadd, 1) := by decide +kernel
theorem dX0_errorsWith_23 : decode cX0_errorsWith 23 = .ok (.ireturn, 1) := by decide +kernel
theorem dX0_offIn_0 : decode cX0_offIn 0 = .ok (.aload_n 0, 1) := by decide +kernel
theorem dX0_offIn_1 : decode cX0_offIn 1 = .ok (.iload_n 1, 1) := by decide +kernel
theorem dX0_offIn_2 : decode cX0_offIn 2 = .ok (.aload_n 2, 1) := by decide +kernel
theorem dX0_offIn_3 : decode cX0_offIn 3 = .ok (.invokevirtual 90, 3) := by decide +kernel
theorem dX0_offIn_6 : decode cX0_offIn 6 = .ok (.iconst 3, 1) := by decide +kernel
theorem dX0_offIn_7 : decode cX0_offIn 7 = .ok (.ishr, 1) := by decide +kernel
theorem dX0_offIn_8 : decode cX0_offIn 8 = .ok (.ireturn, 1) := by decide +kernel
theorem dX0_stepIn_0 : decode cX0_stepIn 0 = .ok (.aload_n 0, 1) := by decide +kernel
theorem dX0_stepIn_1 : decode cX0_stepIn 1 = .ok (.iload_n 1, 1) := by decide +kernel
theorem dX0_stepIn_2 : decode cX0_stepIn 2 = .ok (.aload_n 2, 1) := by decide +kernel
theorem dX0_stepIn_3 : decode cX0_stepIn 3 = .ok (.invokevirtual 90, 3) := by decide +kernel
theorem dX0_stepIn_6 : decode cX0_stepIn 6 = .ok (.bipush 7, 2) := by decide +kernel
theorem dX0_stepIn_8 : decode cX0_stepIn 8 = .ok (.iand, 1) := by decide +kernel
theorem dX0_stepIn_9 : decode cX0_stepIn 9 = .ok (.ireturn, 1) := by decide +kernel
theorem dX0_standing_0 : decode cX0_standing 0 = .ok (.iconst 0, 1) := by decide +kernel
theorem dX0_standing_1 : decode cX0_standing 1 = .ok (.istore_n 3, 1) := by decide +kernel
theorem dX0_standing_2 : decode cX0_standing 2 = .ok (.aload_n 0, 1) := by decide +kernel
theorem dX0_standing_3 : decode cX0_standing 3 = .ok (.iload_n 1, 1) := by decide +kernel
theorem dX0_standing_4 : decode cX0_standing 4 = .ok (.iload_n 3, 1) := by decide +kernel
theorem dX0_standing_5 : decode cX0_standing 5 = .ok (.invokevirtual 94, 3) := by decide +kernel
theorem dX0_standing_8 : decode cX0_standing 8 = .ok (.iconst 3, 1) := by decide +kernel
theorem dX0_standing_9 : decode cX0_standing 9 = .ok (.ishl, 1) := by decide +kernel
theorem dX0_standing_10 : decode cX0_standing 10 = .ok (.istore 4, 2) := by decide +kernel
theorem dX0_standing_12 : decode cX0_standing 12 = .ok (.iconst 0, 1) := by decide +kernel
theorem dX0_standing_13 : decode cX0_standing 13 = .ok (.istore 5, 2) := by decide +kernel
theorem dX0_standing_15 : decode cX0_standing 15 = .ok (.iload 5, 2) := by decide +kernel
theorem dX0_standing_17 : decode cX0_standing 17 = .ok (.aload_n 0, 1) := by decide +kernel
theorem dX0_standing_18 : decode cX0_standing 18 = .ok (.getfield 38, 3) := by decide +kernel
theorem dX0_standing_21 : decode cX0_standing 21 = .ok (.if_icmp .ge 45, 3) := by decide +kernel
theorem dX0_standing_24 : decode cX0_standing 24 = .ok (.iload 5, 2) := by decide +kernel
theorem dX0_standing_26 : decode cX0_standing 26 = .ok (.aload_n 2, 1) := by decide +kernel
theorem dX0_standing_27 : decode cX0_standing 27 = .ok (.arraylength, 1) := by decide +kernel
theorem dX0_standing_28 : decode cX0_standing 28 = .ok (.if_icmp .ge 38, 3) := by decide +kernel
theorem dX0_standing_31 : decode cX0_standing 31 = .ok (.iload_n 3, 1) := by decide +kernel
theorem dX0_standing_32 : decode cX0_standing 32 = .ok (.iconst 1, 1) := by decide +kernel
theorem dX0_standing_33 : decode cX0_standing 33 = .ok (.aload_n 2, 1) := by decide +kernel
theorem dX0_standing_34 : decode cX0_standing 34 = .ok (.iload 5, 2) := by decide +kernel
theorem dX0_standing_36 : decode cX0_standing 36 = .ok (.iaload, 1) := by decide +kernel
theorem dX0_standing_37 : decode cX0_standing 37 = .ok (.ishl, 1) := by decide +kernel
theorem dX0_standing_38 : decode cX0_standing 38 = .ok (.ior, 1) := by decide +kernel
theorem dX0_standing_39 : decode cX0_standing 39 = .ok (.istore_n 3, 1) := by decide +kernel
theorem dX0_standing_40 : decode cX0_standing 40 = .ok (.iload 4, 2) := by decide +kernel
theorem dX0_standing_42 : decode cX0_standing 42 = .ok (.aload_n 0, 1) := by decide +kernel
theorem dX0_standing_43 : decode cX0_standing 43 = .ok (.iload_n 1, 1) := by decide +kernel
theorem dX0_standing_44 : decode cX0_standing 44 = .ok (.iload_n 3, 1) := by decide +kernel
theorem dX0_standing_45 : decode cX0_standing 45 = .ok (.invokevirtual 94, 3) := by decide +kernel
theorem dX0_standing_48 : decode cX0_standing 48 = .ok (.iconst 3, 1) := by decide +kernel
theorem dX0_standing_49 : decode cX0_standing 49 = .ok (.ishl, 1) := by decide +kernel
theorem dX0_standing_50 : decode cX0_standing 50 = .ok (.iload 5, 2) := by decide +kernel
theorem dX0_standing_52 : decode cX0_standing 52 = .ok (.iconst 1, 1) := by decide +kernel
theorem dX0_standing_53 : decode cX0_standing 53 = .ok (.iadd, 1) := by decide +kernel
theorem dX0_standing_54 : decode cX0_standing 54 = .ok (.ior, 1) := by decide +kernel
theorem dX0_standing_55 : decode cX0_standing 55 = .ok (.invokestatic 97, 3) := by decide +kernel
theorem dX0_standing_58 : decode cX0_standing 58 = .ok (.istore 4, 2) := by decide +kernel
theorem dX0_standing_60 : decode cX0_standing 60 = .ok (.iinc 5 1, 3) := by decide +kernel
theorem dX0_standing_63 : decode cX0_standing 63 = .ok (.goto (-48), 3) := by decide +kernel
theorem dX0_standing_66 : decode cX0_standing 66 = .ok (.iload 4, 2) := by decide +kernel
theorem dX0_standing_68 : decode cX0_standing 68 = .ok (.ireturn, 1) := by decide +kernel
theorem dX0_chanceAbove_0 : decode cX0_chanceAbove 0 = .ok (.aload_n 0, 1) := by decide +kernel
theorem dX0_chanceAbove_1 : decode cX0_chanceAbove 1 = .ok (.iload_n 1, 1) := by decide +kernel
theorem dX0_chanceAbove_2 : decode cX0_chanceAbove 2 = .ok (.invokevirtual 69, 3) := by decide +kernel
theorem dX0_chanceAbove_5 : decode cX0_chanceAbove 5 = .ok (.istore 5, 2) := by decide +kernel
theorem dX0_chanceAbove_7 : decode cX0_chanceAbove 7 = .ok (.aload_n 0, 1) := by decide +kernel
theorem dX0_chanceAbove_8 : decode cX0_chanceAbove 8 = .ok (.iload_n 1, 1) := by decide +kernel
theorem dX0_chanceAbove_9 : decode cX0_chanceAbove 9 = .ok (.invokevirtual 73, 3) := by decide +kernel
theorem dX0_chanceAbove_12 : decode cX0_chanceAbove 12 = .ok (.istore 6, 2) := by decide +kernel
theorem dX0_chanceAbove_14 : decode cX0_chanceAbove 14 = .ok (.bipush 16, 2) := by decide +kernel
theorem dX0_chanceAbove_16 : decode cX0_chanceAbove 16 = .ok (.iload_n 3, 1) := by decide +kernel
theorem dX0_chanceAbove_17 : decode cX0_chanceAbove 17 = .ok (.isub, 1) := by decide +kernel
theorem dX0_chanceAbove_18 : decode cX0_chanceAbove 18 = .ok (.i2l, 1) := by decide +kernel
theorem dX0_chanceAbove_19 : decode cX0_chanceAbove 19 = .ok (.iload 5, 2) := by decide +kernel
theorem dX0_chanceAbove_21 : decode cX0_chanceAbove 21 = .ok (.iload_n 2, 1) := by decide +kernel
theorem dX0_chanceAbove_22 : decode cX0_chanceAbove 22 = .ok (.iand, 1) := by decide +kernel
theorem dX0_chanceAbove_23 : decode cX0_chanceAbove 23 = .ok (.invokestatic 76, 3) := by decide +kernel
theorem dX0_chanceAbove_26 : decode cX0_chanceAbove 26 = .ok (.invokestatic 100, 3) := by decide +kernel
theorem dX0_chanceAbove_29 : decode cX0_chanceAbove 29 = .ok (.iload_n 3, 1) := by decide +kernel
theorem dX0_chanceAbove_30 : decode cX0_chanceAbove 30 = .ok (.i2l, 1) := by decide +kernel
theorem dX0_chanceAbove_31 : decode cX0_chanceAbove 31 = .ok (.iload 6, 2) := by decide +kernel
theorem dX0_chanceAbove_33 : decode cX0_chanceAbove 33 = .ok (.iload_n 2, 1) := by decide +kernel
theorem dX0_chanceAbove_34 : decode cX0_chanceAbove 34 = .ok (.iand, 1) := by decide +kernel
theorem dX0_chanceAbove_35 : decode cX0_chanceAbove 35 = .ok (.invokestatic 76, 3) := by decide +kernel
theorem dX0_chanceAbove_38 : decode cX0_chanceAbove 38 = .ok (.invokestatic 100, 3) := by decide +kernel
theorem dX0_chanceAbove_41 : decode cX0_chanceAbove 41 = .ok (.lmul, 1) := by decide +kernel
theorem dX0_chanceAbove_42 : decode cX0_chanceAbove 42 = .ok (.iload 4, 2) := by decide +kernel
theorem dX0_chanceAbove_44 : decode cX0_chanceAbove 44 = .ok (.i2l, 1) := by decide +kernel
theorem dX0_chanceAbove_45 : decode cX0_chanceAbove 45 = .ok (.iload 5, 2) := by decide +kernel
theorem dX0_chanceAbove_47 : decode cX0_chanceAbove 47 = .ok (.iload_n 2, 1) := by decide +kernel
theorem dX0_chanceAbove_48 : decode cX0_chanceAbove 48 = .ok (.iconst (-1), 1) := by decide +kernel
theorem dX0_chanceAbove_49 : decode cX0_chanceAbove 49 = .ok (.ixor, 1) := by decide +kernel
theorem dX0_chanceAbove_50 : decode cX0_chanceAbove 50 = .ok (.iand, 1) := by decide +kernel
theorem dX0_chanceAbove_51 : decode cX0_chanceAbove 51 = .ok (.invokestatic 76, 3) := by decide +kernel
theorem dX0_chanceAbove_54 : decode cX0_chanceAbove 54 = .ok (.invokestatic 100, 3) := by decide +kernel
theorem dX0_chanceAbove_57 : decode cX0_chanceAbove 57 = .ok (.lmul, 1) := by decide +kernel
theorem dX0_chanceAbove_58 : decode cX0_chanceAbove 58 = .ok (.bipush 16, 2) := by decide +kernel
theorem dX0_chanceAbove_60 : decode cX0_chanceAbove 60 = .ok (.iload 4, 2) := by decide +kernel
theorem dX0_chanceAbove_62 : decode cX0_chanceAbove 62 = .ok (.isub, 1) := by decide +kernel
theorem dX0_chanceAbove_63 : decode cX0_chanceAbove 63 = .ok (.i2l, 1) := by decide +kernel
theorem dX0_chanceAbove_64 : decode cX0_chanceAbove 64 = .ok (.iload 6, 2) := by decide +kernel
theorem dX0_chanceAbove_66 : decode cX0_chanceAbove 66 = .ok (.iload_n 2, 1) := by decide +kernel
theorem dX0_chanceAbove_67 : decode cX0_chanceAbove 67 = .ok (.iconst (-1), 1) := by decide +kernel
theorem dX0_chanceAbove_68 : decode cX0_chanceAbove 68 = .ok (.ixor, 1) := by decide +kernel
theorem dX0_chanceAbove_69 : decode cX0_chanceAbove 69 = .ok (.iand, 1) := by decide +kernel
theorem dX0_chanceAbove_70 : decode cX0_chanceAbove 70 = .ok (.invokestatic 76, 3) := by decide +kernel
theorem dX0_chanceAbove_73 : decode cX0_chanceAbove 73 = .ok (.invokestatic 100, 3) := by decide +kernel
theorem dX0_chanceAbove_76 : decode cX0_chanceAbove 76 = .ok (.lmul, 1) := by decide +kernel
theorem dX0_chanceAbove_77 : decode cX0_chanceAbove 77 = .ok (.lreturn, 1) := by decide +kernel
theorem dX0_chanceBelow_0 : decode cX0_chanceBelow 0 = .ok (.ldc2_w 104, 3) := by decide +kernel
theorem dX0_chanceBelow_3 : decode cX0_chanceBelow 3 = .ok (.aload_n 0, 1) := by decide +kernel
theorem dX0_chanceBelow_4 : decode cX0_chanceBelow 4 = .ok (.iload_n 1, 1) := by decide +kernel
theorem dX0_chanceBelow_5 : decode cX0_chanceBelow 5 = .ok (.invokevirtual 81, 3) := by decide +kernel
theorem dX0_chanceBelow_8 : decode cX0_chanceBelow 8 = .ok (.invokestatic 100, 3) := by decide +kernel
theorem dX0_chanceBelow_11 : decode cX0_chanceBelow 11 = .ok (.lreturn, 1) := by decide +kernel
theorem dX0_power_0 : decode cX0_power 0 = .ok (.lconst 1, 1) := by decide +kernel
theorem dX0_power_1 : decode cX0_power 1 = .ok (.lstore_n 3, 1) := by decide +kernel
theorem dX0_power_2 : decode cX0_power 2 = .ok (.iconst 0, 1) := by decide +kernel
theorem dX0_power_3 : decode cX0_power 3 = .ok (.istore 5, 2) := by decide +kernel
theorem dX0_power_5 : decode cX0_power 5 = .ok (.iload 5, 2) := by decide +kernel
theorem dX0_power_7 : decode cX0_power 7 = .ok (.iload_n 2, 1) := by decide +kernel
theorem dX0_power_8 : decode cX0_power 8 = .ok (.if_icmp .ge 13, 3) := by decide +kernel
theorem dX0_power_11 : decode cX0_power 11 = .ok (.lload_n 3, 1) := by decide +kernel
theorem dX0_power_12 : decode cX0_power 12 = .ok (.lload_n 0, 1) := by decide +kernel
theorem dX0_power_13 : decode cX0_power 13 = .ok (.lmul, 1) := by decide +kernel
theorem dX0_power_14 : decode cX0_power 14 = .ok (.lstore_n 3, 1) := by decide +kernel
theorem dX0_power_15 : decode cX0_power 15 = .ok (.iinc 5 1, 3) := by decide +kernel
theorem dX0_power_18 : decode cX0_power 18 = .ok (.goto (-13), 3) := by decide +kernel
theorem dX0_power_21 : decode cX0_power 21 = .ok (.lload_n 3, 1) := by decide +kernel
theorem dX0_power_22 : decode cX0_power 22 = .ok (.lreturn, 1) := by decide +kernel
theorem dX1_init_0 : decode cX1_init 0 = .ok (.aload_n 0, 1) := by decide +kernel
theorem dX1_init_1 : decode cX1_init 1 = .ok (.invokespecial 3, 3) := by decide +kernel
theorem dX1_init_4 : decode cX1_init 4 = .ok (.aload_n 0, 1) := by decide +kernel
theorem dX1_init_5 : decode cX1_init 5 = .ok (.bipush 7, 2) := by decide +kernel
theorem dX1_init_7 : decode cX1_init 7 = .ok (.newarray .int, 2) := by decide +kernel
theorem dX1_init_9 : decode cX1_init 9 = .ok (.putfield 9, 3) := by decide +kernel
theorem dX1_init_12 : decode cX1_init 12 = .ok (.return_, 1) := by decide +kernel
theorem dX1_begin_0 : decode cX1_begin 0 = .ok (.aload_n 0, 1) := by decide +kernel
theorem dX1_begin_1 : decode cX1_begin 1 = .ok (.aload_n 1, 1) := by decide +kernel
theorem dX1_begin_2 : decode cX1_begin 2 = .ok (.getfield 15, 3) := by decide +kernel
theorem dX1_begin_5 : decode cX1_begin 5 = .ok (.putfield 21, 3) := by decide +kernel
theorem dX1_begin_8 : decode cX1_begin 8 = .ok (.aload_n 0, 1) := by decide +kernel
theorem dX1_begin_9 : decode cX1_begin 9 = .ok (.getfield 9, 3) := by decide +kernel
theorem dX1_begin_12 : decode cX1_begin 12 = .ok (.iconst 0, 1) := by decide +kernel
theorem dX1_begin_13 : decode cX1_begin 13 = .ok (.invokestatic 22, 3) := by decide +kernel
theorem dX1_begin_16 : decode cX1_begin 16 = .ok (.iconst 0, 1) := by decide +kernel
theorem dX1_begin_17 : decode cX1_begin 17 = .ok (.istore 4, 2) := by decide +kernel
theorem dX1_begin_19 : decode cX1_begin 19 = .ok (.iconst 0, 1) := by decide +kernel
theorem dX1_begin_20 : decode cX1_begin 20 = .ok (.istore 5, 2) := by decide +kernel
theorem dX1_begin_22 : decode cX1_begin 22 = .ok (.iload 5, 2) := by decide +kernel
theorem dX1_begin_24 : decode cX1_begin 24 = .ok (.aload_n 1, 1) := by decide +kernel
theorem dX1_begin_25 : decode cX1_begin 25 = .ok (.getfield 28, 3) := by decide +kernel
theorem dX1_begin_28 : decode cX1_begin 28 = .ok (.if_icmp .ge 51, 3) := by decide +kernel
theorem dX1_begin_31 : decode cX1_begin 31 = .ok (.aload_n 1, 1) := by decide +kernel
theorem dX1_begin_32 : decode cX1_begin 32 = .ok (.getfield 31, 3) := by decide +kernel
theorem dX1_begin_35 : decode cX1_begin 35 = .ok (.iload 5, 2) := by decide +kernel
theorem dX1_begin_37 : decode cX1_begin 37 = .ok (.iaload, 1) := by decide +kernel
theorem dX1_begin_38 : decode cX1_begin 38 = .ok (.istore 6, 2) := by decide +kernel
theorem dX1_begin_40 : decode cX1_begin 40 = .ok (.iload 6, 2) := by decide +kernel
theorem dX1_begin_42 : decode cX1_begin 42 = .ok (.iload_n 2, 1) := by decide +kernel
theorem dX1_begin_43 : decode cX1_begin 43 = .ok (.iand, 1) := by decide +kernel
theorem dX1_begin_44 : decode cX1_begin 44 = .ok (.iload_n 2, 1) := by decide +kernel
theorem dX1_begin_45 : decode cX1_begin 45 = .ok (.if_icmp .ne 28, 3) := by decide +kernel
theorem dX1_begin_48 : decode cX1_begin 48 = .ok (.iload 6, 2) := by decide +kernel
theorem dX1_begin_50 : decode cX1_begin 50 = .ok (.iload_n 3, 1) := by decide +kernel
theorem dX1_begin_51 : decode cX1_begin 51 = .ok (.iand, 1) := by decide +kernel
theorem dX1_begin_52 : decode cX1_begin 52 = .ok (.ifCond .ne 21, 3) := by decide +kernel
theorem dX1_begin_55 : decode cX1_begin 55 = .ok (.iload 4, 2) := by decide +kernel
theorem dX1_begin_57 : decode cX1_begin 57 = .ok (.bipush 14, 2) := by decide +kernel
theorem dX1_begin_59 : decode cX1_begin 59 = .ok (.if_icmp .ge 11, 3) := by decide +kernel
theorem dX1_begin_62 : decode cX1_begin 62 = .ok (.aload_n 0, 1) := by decide +kernel
theorem dX1_begin_63 : decode cX1_begin 63 = .ok (.iload 4, 2) := by decide +kernel
theorem dX1_begin_65 : decode cX1_begin 65 = .ok (.iload 6, 2) := by decide +kernel
theorem dX1_begin_67 : decode cX1_begin 67 = .ok (.invokevirtual 34, 3) := by decide +kernel
theorem dX1_begin_70 : decode cX1_begin 70 = .ok (.iinc 4 1, 3) := by decide +kernel
theorem dX1_begin_73 : decode cX1_begin 73 = .ok (.iinc 5 1, 3) := by decide +kernel
theorem dX1_begin_76 : decode cX1_begin 76 = .ok (.goto (-54), 3) := by decide +kernel
theorem dX1_begin_79 : decode cX1_begin 79 = .ok (.aload_n 0, 1) := by decide +kernel
theorem dX1_begin_80 : decode cX1_begin 80 = .ok (.iconst 1, 1) := by decide +kernel
theorem dX1_begin_81 : decode cX1_begin 81 = .ok (.iload 4, 2) := by decide +kernel
theorem dX1_begin_83 : decode cX1_begin 83 = .ok (.bipush 14, 2) := by decide +kernel
theorem dX1_begin_85 : decode cX1_begin 85 = .ok (.invokestatic 38, 3) := by decide +kernel
theorem dX1_begin_88 : decode cX1_begin 88 = .ok (.ishl, 1) := by decide +kernel
theorem dX1_begin_89 : decode cX1_begin 89 = .ok (.iconst 1, 1) := by decide +kernel
theorem dX1_begin_90 : decode cX1_begin 90 = .ok (.isub, 1) := by decide +kernel
theorem dX1_begin_91 : decode cX1_begin 91 = .ok (.putfield 44, 3) := by decide +kernel
theorem dX1_begin_94 : decode cX1_begin 94 = .ok (.iload 4, 2) := by decide +kernel
theorem dX1_begin_96 : decode cX1_begin 96 = .ok (.ireturn, 1) := by decide +kernel
theorem dX1_note_0 : decode cX1_note 0 = .ok (.iconst 0, 1) := by decide +kernel
theorem dX1_note_1 : decode cX1_note 1 = .ok (.istore_n 3, 1) := by decide +kernel
theorem dX1_note_2 : decode cX1_note 2 = .ok (.iload_n 3, 1) := by decide +kernel
theorem dX1_note_3 : decode cX1_note 3 = .ok (.aload_n 0, 1) := by decide +kernel
theorem dX1_note_4 : decode cX1_note 4 = .ok (.getfield 21, 3) := by decide +kernel
theorem dX1_note_7 : decode cX1_note 7 = .ok (.if_icmp .ge 25, 3) := by decide +kernel
theorem dX1_note_10 : decode cX1_note 10 = .ok (.aload_n 0, 1) := by decide +kernel
theorem dX1_note_11 : decode cX1_note 11 = .ok (.getfield 9, 3) := by decide +kernel
theorem dX1_note_14 : decode cX1_note 14 = .ok (.iload_n 3, 1) := by decide +kernel
theorem dX1_note_15 : decode cX1_note 15 = .ok (.dup2, 1) := by decide +kernel
theorem dX1_note_16 : decode cX1_note 16 = .ok (.iaload, 1) := by decide +kernel
theorem dX1_note_17 : decode cX1_note 17 = .ok (.iload_n 2, 1) := by decide +kernel
theorem dX1_note_18 : decode cX1_note 18 = .ok (.iload_n 3, 1) := by decide +kernel
theorem dX1_note_19 : decode cX1_note 19 = .ok (.ishr, 1) := by decide +kernel
theorem dX1_note_20 : decode cX1_note 20 = .ok (.iconst 1, 1) := by decide +kernel
theorem dX1_note_21 : decode cX1_note 21 = .ok (.iand, 1) := by decide +kernel
theorem dX1_note_22 : decode cX1_note 22 = .ok (.iload_n 1, 1) := by decide +kernel
theorem dX1_note_23 : decode cX1_note 23 = .ok (.ishl, 1) := by decide +kernel
theorem dX1_note_24 : decode cX1_note 24 = .ok (.ior, 1) := by decide +kernel
theorem dX1_note_25 : decode cX1_note 25 = .ok (.iastore, 1) := by decide +kernel
theorem dX1_note_26 : decode cX1_note 26 = .ok (.iinc 3 1, 3) := by decide +kernel
theorem dX1_note_29 : decode cX1_note 29 = .ok (.goto (-27), 3) := by decide +kernel
theorem dX1_note_32 : decode cX1_note 32 = .ok (.return_, 1) := by decide +kernel
theorem dX1_fewest_0 : decode cX1_fewest 0 = .ok (.iconst 0, 1) := by decide +kernel
theorem dX1_fewest_1 : decode cX1_fewest 1 = .ok (.istore_n 1, 1) := by decide +kernel
theorem dX1_fewest_2 : decode cX1_fewest 2 = .ok (.iload_n 1, 1) := by decide +kernel
theorem dX1_fewest_3 : decode cX1_fewest 3 = .ok (.aload_n 0, 1) := by decide +kernel
theorem dX1_fewest_4 : decode cX1_fewest 4 = .ok (.getfield 21, 3) := by decide +kernel
theorem dX1_fewest_7 : decode cX1_fewest 7 = .ok (.if_icmp .ge 23, 3) := by decide +kernel
theorem dX1_fewest_10 : decode cX1_fewest 10 = .ok (.aload_n 0, 1) := by decide +kernel
theorem dX1_fewest_11 : decode cX1_fewest 11 = .ok (.iload_n 1, 1) := by decide +kernel
theorem dX1_fewest_12 : decode cX1_fewest 12 = .ok (.aload_n 0, 1) := by decide +kernel
theorem dX1_fewest_13 : decode cX1_fewest 13 = .ok (.getfield 44, 3) := by decide +kernel
theorem dX1_fewest_16 : decode cX1_fewest 16 = .ok (.invokevirtual 47, 3) := by decide +kernel
theorem dX1_fewest_19 : decode cX1_fewest 19 = .ok (.ifCond .eq 5, 3) := by decide +kernel
theorem dX1_fewest_22 : decode cX1_fewest 22 = .ok (.iload_n 1, 1) := by decide +kernel
theorem dX1_fewest_23 : decode cX1_fewest 23 = .ok (.ireturn, 1) := by decide +kernel
theorem dX1_fewest_24 : decode cX1_fewest 24 = .ok (.iinc 1 1, 3) := by decide +kernel
theorem dX1_fewest_27 : decode cX1_fewest 27 = .ok (.goto (-25), 3) := by decide +kernel
theorem dX1_fewest_30 : decode cX1_fewest 30 = .ok (.aload_n 0, 1) := by decide +kernel
theorem dX1_fewest_31 : decode cX1_fewest 31 = .ok (.getfield 21, 3) := by decide +kernel
theorem dX1_fewest_34 : decode cX1_fewest 34 = .ok (.ireturn, 1) := by decide +kernel
theorem dX1_first_0 : decode cX1_first 0 = .ok (.iconst 0, 1) := by decide +kernel
theorem dX1_first_1 : decode cX1_first 1 = .ok (.istore_n 2, 1) := by decide +kernel
theorem dX1_first_2 : decode cX1_first 2 = .ok (.iload_n 2, 1) := by decide +kernel
theorem dX1_first_3 : decode cX1_first 3 = .ok (.aload_n 0, 1) := by decide +kernel
theorem dX1_first_4 : decode cX1_first 4 = .ok (.getfield 21, 3) := by decide +kernel
theorem dX1_first_7 : decode cX1_first 7 = .ok (.if_icmp .ge 28, 3) := by decide +kernel
theorem dX1_first_10 : decode cX1_first 10 = .ok (.iload_n 1, 1) := by decide +kernel
theorem dX1_first_11 : decode cX1_first 11 = .ok (.ifCond .le 24, 3) := by decide +kernel
theorem dX1_first_14 : decode cX1_first 14 = .ok (.aload_n 0, 1) := by decide +kernel
theorem dX1_first_15 : decode cX1_first 15 = .ok (.iload_n 2, 1) := by decide +kernel
theorem dX1_first_16 : decode cX1_first 16 = .ok (.iload_n 1, 1) := by decide +kernel
theorem dX1_first_17 : decode cX1_first 17 = .ok (.aload_n 0, 1) := by decide +kernel
theorem dX1_first_18 : decode cX1_first 18 = .ok (.getfield 44, 3) := by decide +kernel
theorem dX1_first_21 : decode cX1_first 21 = .ok (.invokevirtual 51, 3) := by decide +kernel
theorem dX1_first_24 : decode cX1_first 24 = .ok (.ifCond .eq 5, 3) := by decide +kernel
theorem dX1_first_27 : decode cX1_first 27 = .ok (.iload_n 2, 1) := by decide +kernel
theorem dX1_first_28 : decode cX1_first 28 = .ok (.ireturn, 1) := by decide +kernel
theorem dX1_first_29 : decode cX1_first 29 = .ok (.iinc 2 1, 3) := by decide +kernel
theorem dX1_first_32 : decode cX1_first 32 = .ok (.goto (-30), 3) := by decide +kernel
theorem dX1_first_35 : decode cX1_first 35 = .ok (.iconst (-1), 1) := by decide +kernel
theorem dX1_first_36 : decode cX1_first 36 = .ok (.ireturn, 1) := by decide +kernel
theorem dX1_suffices_0 : decode cX1_suffices 0 = .ok (.iload_n 2, 1) := by decide +kernel
theorem dX1_suffices_1 : decode cX1_suffices 1 = .ok (.invokestatic 55, 3) := by decide +kernel
theorem dX1_suffices_4 : decode cX1_suffices 4 = .ok (.istore_n 3, 1) := by decide +kernel
theorem dX1_suffices_5 : decode cX1_suffices 5 = .ok (.iload_n 3, 1) := by decide +kernel
theorem dX1_suffices_6 : decode cX1_suffices 6 = .ok (.iconst 1, 1) := by decide +kernel
theorem dX1_suffices_7 : decode cX1_suffices 7 = .ok (.if_icmp .gt 5, 3) := by decide +kernel
theorem dX1_suffices_10 : decode cX1_suffices 10 = .ok (.iconst 1, 1) := by decide +kernel
theorem dX1_suffices_11 : decode cX1_suffices 11 = .ok (.ireturn, 1) := by decide +kernel
theorem dX1_suffices_12 : decode cX1_suffices 12 = .ok (.iload_n 1, 1) := by decide +kernel
theorem dX1_suffices_13 : decode cX1_suffices 13 = .ok (.ifCond .le 10, 3) := by decide +kernel
theorem dX1_suffices_16 : decode cX1_suffices 16 = .ok (.iload_n 3, 1) := by decide +kernel
theorem dX1_suffices_17 : decode cX1_suffices 17 = .ok (.iconst 1, 1) := by decide +kernel
theorem dX1_suffices_18 : decode cX1_suffices 18 = .ok (.iload_n 1, 1) := by decide +kernel
theorem dX1_suffices_19 : decode cX1_suffices 19 = .ok (.ishl, 1) := by decide +kernel
theorem dX1_suffices_20 : decode cX1_suffices 20 = .ok (.if_icmp .le 5, 3) := by decide +kernel
theorem dX1_suffices_23 : decode cX1_suffices 23 = .ok (.iconst 0, 1) := by decide +kernel
theorem dX1_suffices_24 : decode cX1_suffices 24 = .ok (.ireturn, 1) := by decide +kernel
theorem dX1_suffices_25 : decode cX1_suffices 25 = .ok (.iconst 0, 1) := by decide +kernel
theorem dX1_suffices_26 : decode cX1_suffices 26 = .ok (.istore 4, 2) := by decide +kernel
theorem dX1_suffices_28 : decode cX1_suffices 28 = .ok (.iload 4, 2) := by decide +kernel
theorem dX1_suffices_30 : decode cX1_suffices 30 = .ok (.aload_n 0, 1) := by decide +kernel
theorem dX1_suffices_31 : decode cX1_suffices 31 = .ok (.getfield 21, 3) := by decide +kernel
theorem dX1_suffices_34 : decode cX1_suffices 34 = .ok (.if_icmp .ge 22, 3) := by decide +kernel
theorem dX1_suffices_37 : decode cX1_suffices 37 = .ok (.aload_n 0, 1) := by decide +kernel
theorem dX1_suffices_38 : decode cX1_suffices 38 = .ok (.iload 4, 2) := by decide +kernel
theorem dX1_suffices_40 : decode cX1_suffices 40 = .ok (.iload_n 1, 1) := by decide +kernel
theorem dX1_suffices_41 : decode cX1_suffices 41 = .ok (.iload_n 2, 1) := by decide +kernel
theorem dX1_suffices_42 : decode cX1_suffices 42 = .ok (.invokevirtual 51, 3) := by decide +kernel
theorem dX1_suffices_45 : decode cX1_suffices 45 = .ok (.ifCond .eq 5, 3) := by decide +kernel
theorem dX1_suffices_48 : decode cX1_suffices 48 = .ok (.iconst 1, 1) := by decide +kernel
theorem dX1_suffices_49 : decode cX1_suffices 49 = .ok (.ireturn, 1) := by decide +kernel
theorem dX1_suffices_50 : decode cX1_suffices 50 = .ok (.iinc 4 1, 3) := by decide +kernel
theorem dX1_suffices_53 : decode cX1_suffices 53 = .ok (.goto (-25), 3) := by decide +kernel
theorem dX1_suffices_56 : decode cX1_suffices 56 = .ok (.iconst 0, 1) := by decide +kernel
theorem dX1_suffices_57 : decode cX1_suffices 57 = .ok (.ireturn, 1) := by decide +kernel
theorem dX1_splitsWell_0 : decode cX1_splitsWell 0 = .ok (.iload_n 3, 1) := by decide +kernel
theorem dX1_splitsWell_1 : decode cX1_splitsWell 1 = .ok (.aload_n 0, 1) := by decide +kernel
theorem dX1_splitsWell_2 : decode cX1_splitsWell 2 = .ok (.getfield 9, 3) := by decide +kernel
theorem dX1_splitsWell_5 : decode cX1_splitsWell 5 = .ok (.iload_n 1, 1) := by decide +kernel
theorem dX1_splitsWell_6 : decode cX1_splitsWell 6 = .ok (.iaload, 1) := by decide +kernel
theorem dX1_splitsWell_7 : decode cX1_splitsWell 7 = .ok (.iand, 1) := by decide +kernel
theorem dX1_splitsWell_8 : decode cX1_splitsWell 8 = .ok (.istore 4, 2) := by decide +kernel
theorem dX1_splitsWell_10 : decode cX1_splitsWell 10 = .ok (.iload_n 3, 1) := by decide +kernel
theorem dX1_splitsWell_11 : decode cX1_splitsWell 11 = .ok (.aload_n 0, 1) := by decide +kernel
theorem dX1_splitsWell_12 : decode cX1_splitsWell 12 = .ok (.getfield 9, 3) := by decide +kernel
theorem dX1_splitsWell_15 : decode cX1_splitsWell 15 = .ok (.iload_n 1, 1) := by decide +kernel
theorem dX1_splitsWell_16 : decode cX1_splitsWell 16 = .ok (.iaload, 1) := by decide +kernel
theorem dX1_splitsWell_17 : decode cX1_splitsWell 17 = .ok (.iconst (-1), 1) := by decide +kernel
theorem dX1_splitsWell_18 : decode cX1_splitsWell 18 = .ok (.ixor, 1) := by decide +kernel
theorem dX1_splitsWell_19 : decode cX1_splitsWell 19 = .ok (.iand, 1) := by decide +kernel
theorem dX1_splitsWell_20 : decode cX1_splitsWell 20 = .ok (.istore 5, 2) := by decide +kernel
theorem dX1_splitsWell_22 : decode cX1_splitsWell 22 = .ok (.iload 4, 2) := by decide +kernel
theorem dX1_splitsWell_24 : decode cX1_splitsWell 24 = .ok (.ifCond .eq 36, 3) := by decide +kernel
theorem dX1_splitsWell_27 : decode cX1_splitsWell 27 = .ok (.iload 5, 2) := by decide +kernel
theorem dX1_splitsWell_29 : decode cX1_splitsWell 29 = .ok (.ifCond .eq 31, 3) := by decide +kernel
theorem dX1_splitsWell_32 : decode cX1_splitsWell 32 = .ok (.aload_n 0, 1) := by decide +kernel
theorem dX1_splitsWell_33 : decode cX1_splitsWell 33 = .ok (.iload_n 2, 1) := by decide +kernel
theorem dX1_splitsWell_34 : decode cX1_splitsWell 34 = .ok (.iconst 1, 1) := by decide +kernel
theorem dX1_splitsWell_35 : decode cX1_splitsWell 35 = .ok (.isub, 1) := by decide +kernel
theorem dX1_splitsWell_36 : decode cX1_splitsWell 36 = .ok (.iload 4, 2) := by decide +kernel
theorem dX1_splitsWell_38 : decode cX1_splitsWell 38 = .ok (.invokevirtual 47, 3) := by decide +kernel
theorem dX1_splitsWell_41 : decode cX1_splitsWell 41 = .ok (.ifCond .eq 19, 3) := by decide +kernel
theorem dX1_splitsWell_44 : decode cX1_splitsWell 44 = .ok (.aload_n 0, 1) := by decide +kernel
theorem dX1_splitsWell_45 : decode cX1_splitsWell 45 = .ok (.iload_n 2, 1) := by decide +kernel
theorem dX1_splitsWell_46 : decode cX1_splitsWell 46 = .ok (.iconst 1, 1) := by decide +kernel
theorem dX1_splitsWell_47 : decode cX1_splitsWell 47 = .ok (.isub, 1) := by decide +kernel
theorem dX1_splitsWell_48 : decode cX1_splitsWell 48 = .ok (.iload 5, 2) := by decide +kernel
theorem dX1_splitsWell_50 : decode cX1_splitsWell 50 = .ok (.invokevirtual 47, 3) := by decide +kernel
theorem dX1_splitsWell_53 : decode cX1_splitsWell 53 = .ok (.ifCond .eq 7, 3) := by decide +kernel
theorem dX1_splitsWell_56 : decode cX1_splitsWell 56 = .ok (.iconst 1, 1) := by decide +kernel
theorem dX1_splitsWell_57 : decode cX1_splitsWell 57 = .ok (.goto 4, 3) := by decide +kernel
theorem dX1_splitsWell_60 : decode cX1_splitsWell 60 = .ok (.iconst 0, 1) := by decide +kernel
theorem dX1_splitsWell_61 : decode cX1_splitsWell 61 = .ok (.ireturn, 1) := by decide +kernel
theorem dX2_init_0 : decode cX2_init 0 = .ok (.aload_n 0, 1) := by decide +kernel
theorem dX2_init_1 : decode cX2_init 1 = .ok (.invokespecial 3, 3) := by decide +kernel
theorem dX2_init_4 : decode cX2_init 4 = .ok (.aload_n 0, 1) := by decide +kernel
theorem dX2_init_5 : decode cX2_init 5 = .ok (.bipush 60, 2) := by decide +kernel
theorem dX2_init_7 : decode cX2_init 7 = .ok (.newarray .int, 2) := by decide +kernel
theorem dX2_init_9 : decode cX2_init 9 = .ok (.putfield 9, 3) := by decide +kernel
theorem dX2_init_12 : decode cX2_init 12 = .ok (.aload_n 0, 1) := by decide +kernel
theorem dX2_init_13 : decode cX2_init 13 = .ok (.bipush 7, 2) := by decide +kernel
theorem dX2_init_15 : decode cX2_init 15 = .ok (.newarray .int, 2) := by decide +kernel
theorem dX2_init_17 : decode cX2_init 17 = .ok (.putfield 15, 3) := by decide +kernel
theorem dX2_init_20 : decode cX2_init 20 = .ok (.aload_n 0, 1) := by decide +kernel
theorem dX2_init_21 : decode cX2_init 21 = .ok (.bipush 7, 2) := by decide +kernel
theorem dX2_init_23 : decode cX2_init 23 = .ok (.newarray .int, 2) := by decide +kernel
theorem dX2_init_25 : decode cX2_init 25 = .ok (.putfield 18, 3) := by decide +kernel
theorem dX2_init_28 : decode cX2_init 28 = .ok (.aload_n 0, 1) := by decide +kernel
theorem dX2_init_29 : decode cX2_init 29 = .ok (.iconst (-1), 1) := by decide +kernel
theorem dX2_init_30 : decode cX2_init 30 = .ok (.putfield 21, 3) := by decide +kernel
theorem dX2_init_33 : decode cX2_init 33 = .ok (.return_, 1) := by decide +kernel
theorem dX2_append_0 : decode cX2_append 0 = .ok (.aload_n 0, 1) := by decide +kernel
theorem dX2_append_1 : decode cX2_append 1 = .ok (.getfield 25, 3) := by decide +kernel
theorem dX2_append_4 : decode cX2_append 4 = .ok (.bipush 60, 2) := by decide +kernel
theorem dX2_append_6 : decode cX2_append 6 = .ok (.if_icmp .ge 27, 3) := by decide +kernel
theorem dX2_append_9 : decode cX2_append 9 = .ok (.aload_n 0, 1) := by decide +kernel
theorem dX2_append_10 : decode cX2_append 10 = .ok (.getfield 9, 3) := by decide +kernel
theorem dX2_append_13 : decode cX2_append 13 = .ok (.aload_n 0, 1) := by decide +kernel
theorem dX2_append_14 : decode cX2_append 14 = .ok (.getfield 25, 3) := by decide +kernel
theorem dX2_append_17 : decode cX2_append 17 = .ok (.iload_n 1, 1) := by decide +kernel
theorem dX2_append_18 : decode cX2_append 18 = .ok (.iastore, 1) := by decide +kernel
theorem dX2_append_19 : decode cX2_append 19 = .ok (.aload_n 0, 1) := by decide +kernel
theorem dX2_append_20 : decode cX2_append 20 = .ok (.dup, 1) := by decide +kernel
theorem dX2_append_21 : decode cX2_append 21 = .ok (.getfield 25, 3) := by decide +kernel
theorem dX2_append_24 : decode cX2_append 24 = .ok (.iconst 1, 1) := by decide +kernel
theorem dX2_append_25 : decode cX2_append 25 = .ok (.iadd, 1) := by decide +kernel
theorem dX2_append_26 : decode cX2_append 26 = .ok (.putfield 25, 3) := by decide +kernel
theorem dX2_append_29 : decode cX2_append 29 = .ok (.aload_n 0, 1) := by decide +kernel
theorem dX2_append_30 : decode cX2_append 30 = .ok (.invokevirtual 28, 3) := by decide +kernel
theorem dX2_append_33 : decode cX2_append 33 = .ok (.return_, 1) := by decide +kernel
theorem dX2_clear_0 : decode cX2_clear 0 = .ok (.aload_n 0, 1) := by decide +kernel
theorem dX2_clear_1 : decode cX2_clear 1 = .ok (.iconst 0, 1) := by decide +kernel
theorem dX2_clear_2 : decode cX2_clear 2 = .ok (.putfield 25, 3) := by decide +kernel
theorem dX2_clear_5 : decode cX2_clear 5 = .ok (.aload_n 0, 1) := by decide +kernel
theorem dX2_clear_6 : decode cX2_clear 6 = .ok (.invokevirtual 28, 3) := by decide +kernel
theorem dX2_clear_9 : decode cX2_clear 9 = .ok (.return_, 1) := by decide +kernel
theorem dX2_readParts_0 : decode cX2_readParts 0 = .ok (.aload_n 0, 1) := by decide +kernel
theorem dX2_readParts_1 : decode cX2_readParts 1 = .ok (.invokevirtual 31, 3) := by decide +kernel
theorem dX2_readParts_4 : decode cX2_readParts 4 = .ok (.aload_n 0, 1) := by decide +kernel
theorem dX2_readParts_5 : decode cX2_readParts 5 = .ok (.aload_n 0, 1) := by decide +kernel
theorem dX2_readParts_6 : decode cX2_readParts 6 = .ok (.getfield 25, 3) := by decide +kernel
theorem dX2_readParts_9 : decode cX2_readParts 9 = .ok (.ifCond .ne 7, 3) := by decide +kernel
theorem dX2_readParts_12 : decode cX2_readParts 12 = .ok (.iconst (-1), 1) := by decide +kernel
theorem dX2_readParts_13 : decode cX2_readParts 13 = .ok (.goto 7, 3) := by decide +kernel
theorem dX2_readParts_16 : decode cX2_readParts 16 = .ok (.aload_n 0, 1) := by decide +kernel
theorem dX2_readParts_17 : decode cX2_readParts 17 = .ok (.invokevirtual 34, 3) := by decide +kernel
theorem dX2_readParts_20 : decode cX2_readParts 20 = .ok (.putfield 21, 3) := by decide +kernel
theorem dX2_readParts_23 : decode cX2_readParts 23 = .ok (.aload_n 0, 1) := by decide +kernel
theorem dX2_readParts_24 : decode cX2_readParts 24 = .ok (.getfield 21, 3) := by decide +kernel
theorem dX2_readParts_27 : decode cX2_readParts 27 = .ok (.iconst (-1), 1) := by decide +kernel
theorem dX2_readParts_28 : decode cX2_readParts 28 = .ok (.if_icmp .eq 7, 3) := by decide +kernel
theorem dX2_readParts_31 : decode cX2_readParts 31 = .ok (.aload_n 0, 1) := by decide +kernel
theorem dX2_readParts_32 : decode cX2_readParts 32 = .ok (.invokevirtual 31, 3) := by decide +kernel
theorem dX2_readParts_35 : decode cX2_readParts 35 = .ok (.return_, 1) := by decide +kernel
theorem dX2_forgetParts_0 : decode cX2_forgetParts 0 = .ok (.aload_n 0, 1) := by decide +kernel
theorem dX2_forgetParts_1 : decode cX2_forgetParts 1 = .ok (.getfield 15, 3) := by decide +kernel
theorem dX2_forgetParts_4 : decode cX2_forgetParts 4 = .ok (.iconst 0, 1) := by decide +kernel
theorem dX2_forgetParts_5 : decode cX2_forgetParts 5 = .ok (.invokestatic 38, 3) := by decide +kernel
theorem dX2_forgetParts_8 : decode cX2_forgetParts 8 = .ok (.aload_n 0, 1) := by decide +kernel
theorem dX2_forgetParts_9 : decode cX2_forgetParts 9 = .ok (.getfield 18, 3) := by decide +kernel
theorem dX2_forgetParts_12 : decode cX2_forgetParts 12 = .ok (.iconst 0, 1) := by decide +kernel
theorem dX2_forgetParts_13 : decode cX2_forgetParts 13 = .ok (.invokestatic 38, 3) := by decide +kernel
theorem dX2_forgetParts_16 : decode cX2_forgetParts 16 = .ok (.aload_n 0, 1) := by decide +kernel
theorem dX2_forgetParts_17 : decode cX2_forgetParts 17 = .ok (.iconst 0, 1) := by decide +kernel
theorem dX2_forgetParts_18 : decode cX2_forgetParts 18 = .ok (.putfield 44, 3) := by decide +kernel
theorem dX2_forgetParts_21 : decode cX2_forgetParts 21 = .ok (.return_, 1) := by decide +kernel
theorem dX2_firstFault_0 : decode cX2_firstFault 0 = .ok (.iconst 0, 1) := by decide +kernel
theorem dX2_firstFault_1 : decode cX2_firstFault 1 = .ok (.istore_n 1, 1) := by decide +kernel
theorem dX2_firstFault_2 : decode cX2_firstFault 2 = .ok (.iload_n 1, 1) := by decide +kernel
theorem dX2_firstFault_3 : decode cX2_firstFault 3 = .ok (.aload_n 0, 1) := by decide +kernel
theorem dX2_firstFault_4 : decode cX2_firstFault 4 = .ok (.getfield 25, 3) := by decide +kernel
theorem dX2_firstFault_7 : decode cX2_firstFault 7 = .ok (.if_icmp .gt 65, 3) := by decide +kernel
theorem dX2_firstFault_10 : decode cX2_firstFault 10 = .ok (.aload_n 0, 1) := by decide +kernel
theorem dX2_firstFault_11 : decode cX2_firstFault 11 = .ok (.iload_n 1, 1) := by decide +kernel
theorem dX2_firstFault_12 : decode cX2_firstFault 12 = .ok (.invokevirtual 47, 3) := by decide +kernel
theorem dX2_firstFault_15 : decode cX2_firstFault 15 = .ok (.istore_n 2, 1) := by decide +kernel
theorem dX2_firstFault_16 : decode cX2_firstFault 16 = .ok (.iload_n 2, 1) := by decide +kernel
theorem dX2_firstFault_17 : decode cX2_firstFault 17 = .ok (.iconst (-1), 1) := by decide +kernel
theorem dX2_firstFault_18 : decode cX2_firstFault 18 = .ok (.if_icmp .eq 5, 3) := by decide +kernel
theorem dX2_firstFault_21 : decode cX2_firstFault 21 = .ok (.iload_n 2, 1) := by decide +kernel
theorem dX2_firstFault_22 : decode cX2_firstFault 22 = .ok (.ireturn, 1) := by decide +kernel
theorem dX2_firstFault_23 : decode cX2_firstFault 23 = .ok (.aload_n 0, 1) := by decide +kernel
theorem dX2_firstFault_24 : decode cX2_firstFault 24 = .ok (.aload_n 0, 1) := by decide +kernel
theorem dX2_firstFault_25 : decode cX2_firstFault 25 = .ok (.iload_n 1, 1) := by decide +kernel
theorem dX2_firstFault_26 : decode cX2_firstFault 26 = .ok (.invokevirtual 51, 3) := by decide +kernel
theorem dX2_firstFault_29 : decode cX2_firstFault 29 = .ok (.aload_n 0, 1) := by decide +kernel
theorem dX2_firstFault_30 : decode cX2_firstFault 30 = .ok (.iload_n 1, 1) := by decide +kernel
theorem dX2_firstFault_31 : decode cX2_firstFault 31 = .ok (.iconst 2, 1) := by decide +kernel
theorem dX2_firstFault_32 : decode cX2_firstFault 32 = .ok (.iadd, 1) := by decide +kernel
theorem dX2_firstFault_33 : decode cX2_firstFault 33 = .ok (.invokevirtual 51, 3) := by decide +kernel
theorem dX2_firstFault_36 : decode cX2_firstFault 36 = .ok (.invokevirtual 54, 3) := by decide +kernel
theorem dX2_firstFault_39 : decode cX2_firstFault 39 = .ok (.iload_n 1, 1) := by decide +kernel
theorem dX2_firstFault_40 : decode cX2_firstFault 40 = .ok (.iconst 3, 1) := by decide +kernel
theorem dX2_firstFault_41 : decode cX2_firstFault 41 = .ok (.iadd, 1) := by decide +kernel
theorem dX2_firstFault_42 : decode cX2_firstFault 42 = .ok (.istore_n 3, 1) := by decide +kernel
theorem dX2_firstFault_43 : decode cX2_firstFault 43 = .ok (.iload_n 3, 1) := by decide +kernel
theorem dX2_firstFault_44 : decode cX2_firstFault 44 = .ok (.aload_n 0, 1) := by decide +kernel
theorem dX2_firstFault_45 : decode cX2_firstFault 45 = .ok (.getfield 25, 3) := by decide +kernel
theorem dX2_firstFault_48 : decode cX2_firstFault 48 = .ok (.if_icmp .lt 5, 3) := by decide +kernel
theorem dX2_firstFault_51 : decode cX2_firstFault 51 = .ok (.iconst (-1), 1) := by decide +kernel
theorem dX2_firstFault_52 : decode cX2_firstFault 52 = .ok (.ireturn, 1) := by decide +kernel
theorem dX2_firstFault_53 : decode cX2_firstFault 53 = .ok (.aload_n 0, 1) := by decide +kernel
theorem dX2_firstFault_54 : decode cX2_firstFault 54 = .ok (.getfield 9, 3) := by decide +kernel
theorem dX2_firstFault_57 : decode cX2_firstFault 57 = .ok (.iload_n 3, 1) := by decide +kernel
theorem dX2_firstFault_58 : decode cX2_firstFault 58 = .ok (.iaload, 1) := by decide +kernel
theorem dX2_firstFault_59 : decode cX2_firstFault 59 = .ok (.bipush 59, 2) := by decide +kernel
theorem dX2_firstFault_61 : decode cX2_firstFault 61 = .ok (.if_icmp .eq 5, 3) := by decide +kernel
theorem dX2_firstFault_64 : decode cX2_firstFault 64 = .ok (.iload_n 3, 1) := by decide +kernel
theorem dX2_firstFault_65 : decode cX2_firstFault 65 = .ok (.ireturn, 1) := by decide +kernel
theorem dX2_firstFault_66 : decode cX2_firstFault 66 = .ok (.iinc 1 4, 3) := by decide +kernel
theorem dX2_firstFault_69 : decode cX2_firstFault 69 = .ok (.goto (-67), 3) := by decide +kernel
theorem dX2_firstFault_72 : decode cX2_firstFault 72 = .ok (.aload_n 0, 1) := by decide +kernel
theorem dX2_firstFault_73 : decode cX2_firstFault 73 = .ok (.getfield 25, 3) := by decide +kernel
theorem dX2_firstFault_76 : decode cX2_firstFault 76 = .ok (.ireturn, 1) := by decide +kernel
theorem dX2_faultOfPart_0 : decode cX2_faultOfPart 0 = .ok (.aload_n 0, 1) := by decide +kernel
theorem dX2_faultOfPart_1 : decode cX2_faultOfPart 1 = .ok (.iload_n 1, 1) := by decide +kernel
theorem dX2_faultOfPart_2 : decode cX2_faultOfPart 2 = .ok (.invokevirtual 51, 3) := by decide +kernel
theorem dX2_faultOfPart_5 : decode cX2_faultOfPart 5 = .ok (.iconst (-1), 1) := by decide +kernel
theorem dX2_faultOfPart_6 : decode cX2_faultOfPart 6 = .ok (.if_icmp .ne 5, 3) := by decide +kernel
theorem dX2_faultOfPart_9 : decode cX2_faultOfPart 9 = .ok (.iload_n 1, 1) := by decide +kernel
theorem dX2_faultOfPart_10 : decode cX2_faultOfPart 10 = .ok (.ireturn, 1) := by decide +kernel
theorem dX2_faultOfPart_11 : decode cX2_faultOfPart 11 = .ok (.iload_n 1, 1) := by decide +kernel
theorem dX2_faultOfPart_12 : decode cX2_faultOfPart 12 = .ok (.iconst 1, 1) := by decide +kernel
theorem dX2_faultOfPart_13 : decode cX2_faultOfPart 13 = .ok (.iadd, 1) := by decide +kernel
theorem dX2_faultOfPart_14 : decode cX2_faultOfPart 14 = .ok (.aload_n 0, 1) := by decide +kernel
theorem dX2_faultOfPart_15 : decode cX2_faultOfPart 15 = .ok (.getfield 25, 3) := by decide +kernel
theorem dX2_faultOfPart_18 : decode cX2_faultOfPart 18 = .ok (.if_icmp .ge 16, 3) := by decide +kernel
theorem dX2_faultOfPart_21 : decode cX2_faultOfPart 21 = .ok (.aload_n 0, 1) := by decide +kernel
theorem dX2_faultOfPart_22 : decode cX2_faultOfPart 22 = .ok (.getfield 9, 3) := by decide +kernel
theorem dX2_faultOfPart_25 : decode cX2_faultOfPart 25 = .ok (.iload_n 1, 1) := by decide +kernel
theorem dX2_faultOfPart_26 : decode cX2_faultOfPart 26 = .ok (.iconst 1, 1) := by decide +kernel
theorem dX2_faultOfPart_27 : decode cX2_faultOfPart 27 = .ok (.iadd, 1) := by decide +kernel
theorem dX2_faultOfPart_28 : decode cX2_faultOfPart 28 = .ok (.iaload, 1) := by decide +kernel
theorem dX2_faultOfPart_29 : decode cX2_faultOfPart 29 = .ok (.bipush 60, 2) := by decide +kernel
theorem dX2_faultOfPart_31 : decode cX2_faultOfPart 31 = .ok (.if_icmp .eq 7, 3) := by decide +kernel
theorem dX2_faultOfPart_34 : decode cX2_faultOfPart 34 = .ok (.iload_n 1, 1) := by decide +kernel
theorem dX2_faultOfPart_35 : decode cX2_faultOfPart 35 = .ok (.iconst 1, 1) := by decide +kernel
theorem dX2_faultOfPart_36 : decode cX2_faultOfPart 36 = .ok (.iadd, 1) := by decide +kernel
theorem dX2_faultOfPart_37 : decode cX2_faultOfPart 37 = .ok (.ireturn, 1) := by decide +kernel
theorem dX2_faultOfPart_38 : decode cX2_faultOfPart 38 = .ok (.aload_n 0, 1) := by decide +kernel
theorem dX2_faultOfPart_39 : decode cX2_faultOfPart 39 = .ok (.iload_n 1, 1) := by decide +kernel
theorem dX2_faultOfPart_40 : decode cX2_faultOfPart 40 = .ok (.iconst 2, 1) := by decide +kernel
theorem dX2_faultOfPart_41 : decode cX2_faultOfPart 41 = .ok (.iadd, 1) := by decide +kernel
theorem dX2_faultOfPart_42 : decode cX2_faultOfPart 42 = .ok (.invokevirtual 51, 3) := by decide +kernel
theorem dX2_faultOfPart_45 : decode cX2_faultOfPart 45 = .ok (.iconst (-1), 1) := by decide +kernel
theorem dX2_faultOfPart_46 : decode cX2_faultOfPart 46 = .ok (.if_icmp .eq 22, 3) := by decide +kernel
theorem dX2_faultOfPart_49 : decode cX2_faultOfPart 49 = .ok (.aload_n 0, 1) := by decide +kernel
theorem dX2_faultOfPart_50 : decode cX2_faultOfPart 50 = .ok (.aload_n 0, 1) := by decide +kernel
theorem dX2_faultOfPart_51 : decode cX2_faultOfPart 51 = .ok (.iload_n 1, 1) := by decide +kernel
theorem dX2_faultOfPart_52 : decode cX2_faultOfPart 52 = .ok (.invokevirtual 51, 3) := by decide +kernel
theorem dX2_faultOfPart_55 : decode cX2_faultOfPart 55 = .ok (.aload_n 0, 1) := by decide +kernel
theorem dX2_faultOfPart_56 : decode cX2_faultOfPart 56 = .ok (.iload_n 1, 1) := by decide +kernel
theorem dX2_faultOfPart_57 : decode cX2_faultOfPart 57 = .ok (.iconst 2, 1) := by decide +kernel
theorem dX2_faultOfPart_58 : decode cX2_faultOfPart 58 = .ok (.iadd, 1) := by decide +kernel
theorem dX2_faultOfPart_59 : decode cX2_faultOfPart 59 = .ok (.invokevirtual 51, 3) := by decide +kernel
theorem dX2_faultOfPart_62 : decode cX2_faultOfPart 62 = .ok (.invokevirtual 58, 3) := by decide +kernel
theorem dX2_faultOfPart_65 : decode cX2_faultOfPart 65 = .ok (.ifCond .eq 7, 3) := by decide +kernel
theorem dX2_faultOfPart_68 : decode cX2_faultOfPart 68 = .ok (.iload_n 1, 1) := by decide +kernel
theorem dX2_faultOfPart_69 : decode cX2_faultOfPart 69 = .ok (.iconst 2, 1) := by decide +kernel
theorem dX2_faultOfPart_70 : decode cX2_faultOfPart 70 = .ok (.iadd, 1) := by decide +kernel
theorem dX2_faultOfPart_71 : decode cX2_faultOfPart 71 = .ok (.ireturn, 1) := by decide +kernel
theorem dX2_faultOfPart_72 : decode cX2_faultOfPart 72 = .ok (.iconst (-1), 1) := by decide +kernel
theorem dX2_faultOfPart_73 : decode cX2_faultOfPart 73 = .ok (.ireturn, 1) := by decide +kernel
theorem dX2_letterAt_0 : decode cX2_letterAt 0 = .ok (.iload_n 1, 1) := by decide +kernel
theorem dX2_letterAt_1 : decode cX2_letterAt 1 = .ok (.aload_n 0, 1) := by decide +kernel
theorem dX2_letterAt_2 : decode cX2_letterAt 2 = .ok (.getfield 25, 3) := by decide +kernel
theorem dX2_letterAt_5 : decode cX2_letterAt 5 = .ok (.if_icmp .ge 25, 3) := by decide +kernel
theorem dX2_letterAt_8 : decode cX2_letterAt 8 = .ok (.aload_n 0, 1) := by decide +kernel
theorem dX2_letterAt_9 : decode cX2_letterAt 9 = .ok (.getfield 9, 3) := by decide +kernel
theorem dX2_letterAt_12 : decode cX2_letterAt 12 = .ok (.iload_n 1, 1) := by decide +kernel
theorem dX2_letterAt_13 : decode cX2_letterAt 13 = .ok (.iaload, 1) := by decide +kernel
theorem dX2_letterAt_14 : decode cX2_letterAt 14 = .ok (.bipush 97, 2) := by decide +kernel
theorem dX2_letterAt_16 : decode cX2_letterAt 16 = .ok (.if_icmp .lt 14, 3) := by decide +kernel
theorem dX2_letterAt_19 : decode cX2_letterAt 19 = .ok (.aload_n 0, 1) := by decide +kernel
theorem dX2_letterAt_20 : decode cX2_letterAt 20 = .ok (.getfield 9, 3) := by decide +kernel
theorem dX2_letterAt_23 : decode cX2_letterAt 23 = .ok (.iload_n 1, 1) := by decide +kernel
theorem dX2_letterAt_24 : decode cX2_letterAt 24 = .ok (.iaload, 1) := by decide +kernel
theorem dX2_letterAt_25 : decode cX2_letterAt 25 = .ok (.bipush 103, 2) := by decide +kernel
theorem dX2_letterAt_27 : decode cX2_letterAt 27 = .ok (.if_icmp .le 5, 3) := by decide +kernel
theorem dX2_letterAt_30 : decode cX2_letterAt 30 = .ok (.iconst (-1), 1) := by decide +kernel
theorem dX2_letterAt_31 : decode cX2_letterAt 31 = .ok (.ireturn, 1) := by decide +kernel
theorem dX2_letterAt_32 : decode cX2_letterAt 32 = .ok (.aload_n 0, 1) := by decide +kernel
theorem dX2_letterAt_33 : decode cX2_letterAt 33 = .ok (.getfield 9, 3) := by decide +kernel
theorem dX2_letterAt_36 : decode cX2_letterAt 36 = .ok (.iload_n 1, 1) := by decide +kernel
theorem dX2_letterAt_37 : decode cX2_letterAt 37 = .ok (.iaload, 1) := by decide +kernel
theorem dX2_letterAt_38 : decode cX2_letterAt 38 = .ok (.bipush 97, 2) := by decide +kernel
theorem dX2_letterAt_40 : decode cX2_letterAt 40 = .ok (.isub, 1) := by decide +kernel
theorem dX2_letterAt_41 : decode cX2_letterAt 41 = .ok (.ireturn, 1) := by decide +kernel
theorem dX2_closesCircle_0 : decode cX2_closesCircle 0 = .ok (.iload_n 1, 1) := by decide +kernel
theorem dX2_closesCircle_1 : decode cX2_closesCircle 1 = .ok (.iload_n 2, 1) := by decide +kernel
theorem dX2_closesCircle_2 : decode cX2_closesCircle 2 = .ok (.if_icmp .eq 16, 3) := by decide +kernel
theorem dX2_closesCircle_5 : decode cX2_closesCircle 5 = .ok (.aload_n 0, 1) := by decide +kernel
theorem dX2_closesCircle_6 : decode cX2_closesCircle 6 = .ok (.getfield 18, 3) := by decide +kernel
theorem dX2_closesCircle_9 : decode cX2_closesCircle 9 = .ok (.iload_n 1, 1) := by decide +kernel
theorem dX2_closesCircle_10 : decode cX2_closesCircle 10 = .ok (.iaload, 1) := by decide +kernel
theorem dX2_closesCircle_11 : decode cX2_closesCircle 11 = .ok (.iconst 1, 1) := by decide +kernel
theorem dX2_closesCircle_12 : decode cX2_closesCircle 12 = .ok (.iload_n 2, 1) := by decide +kernel
theorem dX2_closesCircle_13 : decode cX2_closesCircle 13 = .ok (.ishl, 1) := by decide +kernel
theorem dX2_closesCircle_14 : decode cX2_closesCircle 14 = .ok (.iand, 1) := by decide +kernel
theorem dX2_closesCircle_15 : decode cX2_closesCircle 15 = .ok (.ifCond .eq 7, 3) := by decide +kernel
theorem dX2_closesCircle_18 : decode cX2_closesCircle 18 = .ok (.iconst 1, 1) := by decide +kernel
theorem dX2_closesCircle_19 : decode cX2_closesCircle 19 = .ok (.goto 4, 3) := by decide +kernel
theorem dX2_closesCircle_22 : decode cX2_closesCircle 22 = .ok (.iconst 0, 1) := by decide +kernel
theorem dX2_closesCircle_23 : decode cX2_closesCircle 23 = .ok (.ireturn, 1) := by decide +kernel
theorem dX2_tellPart_0 : decode cX2_tellPart 0 = .ok (.iload_n 1, 1) := by decide +kernel
theorem dX2_tellPart_1 : decode cX2_tellPart 1 = .ok (.ifCond .lt 7, 3) := by decide +kernel
theorem dX2_tellPart_4 : decode cX2_tellPart 4 = .ok (.iload_n 2, 1) := by decide +kernel
theorem dX2_tellPart_5 : decode cX2_tellPart 5 = .ok (.ifCond .ge 4, 3) := by decide +kernel
theorem dX2_tellPart_8 : decode cX2_tellPart 8 = .ok (.return_, 1) := by decide +kernel
theorem dX2_tellPart_9 : decode cX2_tellPart 9 = .ok (.aload_n 0, 1) := by decide +kernel
theorem dX2_tellPart_10 : decode cX2_tellPart 10 = .ok (.getfield 15, 3) := by decide +kernel
theorem dX2_tellPart_13 : decode cX2_tellPart 13 = .ok (.iload_n 2, 1) := by decide +kernel
theorem dX2_tellPart_14 : decode cX2_tellPart 14 = .ok (.dup2, 1) := by decide +kernel
theorem dX2_tellPart_15 : decode cX2_tellPart 15 = .ok (.iaload, 1) := by decide +kernel
theorem dX2_tellPart_16 : decode cX2_tellPart 16 = .ok (.iconst 1, 1) := by decide +kernel
theorem dX2_tellPart_17 : decode cX2_tellPart 17 = .ok (.iload_n 1, 1) := by decide +kernel
theorem dX2_tellPart_18 : decode cX2_tellPart 18 = .ok (.ishl, 1) := by decide +kernel
theorem dX2_tellPart_19 : decode cX2_tellPart 19 = .ok (.ior, 1) := by decide +kernel
theorem dX2_tellPart_20 : decode cX2_tellPart 20 = .ok (.iastore, 1) := by decide +kernel
theorem dX2_tellPart_21 : decode cX2_tellPart 21 = .ok (.aload_n 0, 1) := by decide +kernel
theorem dX2_tellPart_22 : decode cX2_tellPart 22 = .ok (.getfield 18, 3) := by decide +kernel
theorem dX2_tellPart_25 : decode cX2_tellPart 25 = .ok (.iload_n 1, 1) := by decide +kernel
theorem dX2_tellPart_26 : decode cX2_tellPart 26 = .ok (.iaload, 1) := by decide +kernel
theorem dX2_tellPart_27 : decode cX2_tellPart 27 = .ok (.iconst 1, 1) := by decide +kernel
theorem dX2_tellPart_28 : decode cX2_tellPart 28 = .ok (.iload_n 1, 1) := by decide +kernel
theorem dX2_tellPart_29 : decode cX2_tellPart 29 = .ok (.ishl, 1) := by decide +kernel
theorem dX2_tellPart_30 : decode cX2_tellPart 30 = .ok (.ior, 1) := by decide +kernel
theorem dX2_tellPart_31 : decode cX2_tellPart 31 = .ok (.istore_n 3, 1) := by decide +kernel
theorem dX2_tellPart_32 : decode cX2_tellPart 32 = .ok (.iconst 0, 1) := by decide +kernel
theorem dX2_tellPart_33 : decode cX2_tellPart 33 = .ok (.istore 4, 2) := by decide +kernel
theorem dX2_tellPart_35 : decode cX2_tellPart 35 = .ok (.iload 4, 2) := by decide +kernel
theorem dX2_tellPart_37 : decode cX2_tellPart 37 = .ok (.bipush 7, 2) := by decide +kernel
theorem dX2_tellPart_39 : decode cX2_tellPart 39 = .ok (.if_icmp .ge 40, 3) := by decide +kernel
theorem dX2_tellPart_42 : decode cX2_tellPart 42 = .ok (.iload 4, 2) := by decide +kernel
theorem dX2_tellPart_44 : decode cX2_tellPart 44 = .ok (.iload_n 2, 1) := by decide +kernel
theorem dX2_tellPart_45 : decode cX2_tellPart 45 = .ok (.if_icmp .eq 17, 3) := by decide +kernel
theorem dX2_tellPart_48 : decode cX2_tellPart 48 = .ok (.aload_n 0, 1) := by decide +kernel
theorem dX2_tellPart_49 : decode cX2_tellPart 49 = .ok (.getfield 18, 3) := by decide +kernel
theorem dX2_tellPart_52 : decode cX2_tellPart 52 = .ok (.iload 4, 2) := by decide +kernel
theorem dX2_tellPart_54 : decode cX2_tellPart 54 = .ok (.iaload, 1) := by decide +kernel
theorem dX2_tellPart_55 : decode cX2_tellPart 55 = .ok (.iconst 1, 1) := by decide +kernel
theorem dX2_tellPart_56 : decode cX2_tellPart 56 = .ok (.iload_n 2, 1) := by decide +kernel
theorem dX2_tellPart_57 : decode cX2_tellPart 57 = .ok (.ishl, 1) := by decide +kernel
theorem dX2_tellPart_58 : decode cX2_tellPart 58 = .ok (.iand, 1) := by decide +kernel
theorem dX2_tellPart_59 : decode cX2_tellPart 59 = .ok (.ifCond .eq 14, 3) := by decide +kernel
theorem dX2_tellPart_62 : decode cX2_tellPart 62 = .ok (.aload_n 0, 1) := by decide +kernel
end
section
theorem dX2_tellPart_63 : decode cX2_tellPart 63 = .ok (.getfield 18, 3) := by decide +kernel
theorem dX2_tellPart_66 : decode cX2_tellPart 66 = .ok (.iload 4, 2) := by decide +kernel
theorem dX2_tellPart_68 : decode cX2_tellPart 68 = .ok (.dup2, 1) := by decide +kernel
theorem dX2_tellPart_69 : decode cX2_tellPart 69 = .ok (.iaload, 1) := by decide +kernel
theorem dX2_tellPart_70 : decode cX2_tellPart 70 = .ok (.iload_n 3, 1) := by decide +kernel
theorem dX2_tellPart_71 : decode cX2_tellPart 71 = .ok (.ior, 1) := by decide +kernel
theorem dX2_tellPart_72 : decode cX2_tellPart 72 = .ok (.iastore, 1) := by decide +kernel
theorem dX2_tellPart_73 : decode cX2_tellPart 73 = .ok (.iinc 4 1, 3) := by decide +kernel
theorem dX2_tellPart_76 : decode cX2_tellPart 76 = .ok (.goto (-41), 3) := by decide +kernel
theorem dX2_tellPart_79 : decode cX2_tellPart 79 = .ok (.aload_n 0, 1) := by decide +kernel
theorem dX2_tellPart_80 : decode cX2_tellPart 80 = .ok (.dup, 1) := by decide +kernel
theorem dX2_tellPart_81 : decode cX2_tellPart 81 = .ok (.getfield 44, 3) := by decide +kernel
theorem dX2_tellPart_84 : decode cX2_tellPart 84 = .ok (.iconst 1, 1) := by decide +kernel
theorem dX2_tellPart_85 : decode cX2_tellPart 85 = .ok (.iadd, 1) := by decide +kernel
theorem dX2_tellPart_86 : decode cX2_tellPart 86 = .ok (.putfield 44, 3) := by decide +kernel
theorem dX2_tellPart_89 : decode cX2_tellPart 89 = .ok (.return_, 1) := by decide +kernel
theorem dX3_init_0 : decode cX3_init 0 = .ok (.aload_n 0, 1) := by decide +kernel
theorem dX3_init_1 : decode cX3_init 1 = .ok (.invokespecial 3, 3) := by decide +kernel
theorem dX3_init_4 : decode cX3_init 4 = .ok (.aload_n 0, 1) := by decide +kernel
theorem dX3_init_5 : decode cX3_init 5 = .ok (.iconst 5, 1) := by decide +kernel
theorem dX3_init_6 : decode cX3_init 6 = .ok (.bipush 12, 2) := by decide +kernel
theorem dX3_init_8 : decode cX3_init 8 = .ok (.multianewarray 9 2, 4) := by decide +kernel
theorem dX3_init_12 : decode cX3_init 12 = .ok (.putfield 11, 3) := by decide +kernel
theorem dX3_init_15 : decode cX3_init 15 = .ok (.aload_n 0, 1) := by decide +kernel
theorem dX3_init_16 : decode cX3_init 16 = .ok (.iconst 4, 1) := by decide +kernel
theorem dX3_init_17 : decode cX3_init 17 = .ok (.newarray .int, 2) := by decide +kernel
theorem dX3_init_19 : decode cX3_init 19 = .ok (.putfield 16, 3) := by decide +kernel
theorem dX3_init_22 : decode cX3_init 22 = .ok (.aload_n 0, 1) := by decide +kernel
theorem dX3_init_23 : decode cX3_init 23 = .ok (.iconst 4, 1) := by decide +kernel
theorem dX3_init_24 : decode cX3_init 24 = .ok (.newarray .int, 2) := by decide +kernel
theorem dX3_init_26 : decode cX3_init 26 = .ok (.putfield 20, 3) := by decide +kernel
theorem dX3_init_29 : decode cX3_init 29 = .ok (.return_, 1) := by decide +kernel
theorem dX3_begin_0 : decode cX3_begin 0 = .ok (.aload_n 0, 1) := by decide +kernel
theorem dX3_begin_1 : decode cX3_begin 1 = .ok (.iconst 0, 1) := by decide +kernel
theorem dX3_begin_2 : decode cX3_begin 2 = .ok (.putfield 23, 3) := by decide +kernel
theorem dX3_begin_5 : decode cX3_begin 5 = .ok (.return_, 1) := by decide +kernel
theorem dX3_admit_0 : decode cX3_admit 0 = .ok (.aload_n 0, 1) := by decide +kernel
theorem dX3_admit_1 : decode cX3_admit 1 = .ok (.getfield 23, 3) := by decide +kernel
theorem dX3_admit_4 : decode cX3_admit 4 = .ok (.bipush 12, 2) := by decide +kernel
theorem dX3_admit_6 : decode cX3_admit 6 = .ok (.if_icmp .ge 25, 3) := by decide +kernel
theorem dX3_admit_9 : decode cX3_admit 9 = .ok (.aload_n 0, 1) := by decide +kernel
theorem dX3_admit_10 : decode cX3_admit 10 = .ok (.getfield 11, 3) := by decide +kernel
theorem dX3_admit_13 : decode cX3_admit 13 = .ok (.iconst 0, 1) := by decide +kernel
theorem dX3_admit_14 : decode cX3_admit 14 = .ok (.aaload, 1) := by decide +kernel
theorem dX3_admit_15 : decode cX3_admit 15 = .ok (.aload_n 0, 1) := by decide +kernel
theorem dX3_admit_16 : decode cX3_admit 16 = .ok (.getfield 23, 3) := by decide +kernel
theorem dX3_admit_19 : decode cX3_admit 19 = .ok (.iload_n 1, 1) := by decide +kernel
theorem dX3_admit_20 : decode cX3_admit 20 = .ok (.iastore, 1) := by decide +kernel
theorem dX3_admit_21 : decode cX3_admit 21 = .ok (.aload_n 0, 1) := by decide +kernel
theorem dX3_admit_22 : decode cX3_admit 22 = .ok (.dup, 1) := by decide +kernel
theorem dX3_admit_23 : decode cX3_admit 23 = .ok (.getfield 23, 3) := by decide +kernel
theorem dX3_admit_26 : decode cX3_admit 26 = .ok (.iconst 1, 1) := by decide +kernel
theorem dX3_admit_27 : decode cX3_admit 27 = .ok (.iadd, 1) := by decide +kernel
theorem dX3_admit_28 : decode cX3_admit 28 = .ok (.putfield 23, 3) := by decide +kernel
theorem dX3_admit_31 : decode cX3_admit 31 = .ok (.return_, 1) := by decide +kernel
theorem dX3_choose_0 : decode cX3_choose 0 = .ok (.aload_n 0, 1) := by decide +kernel
theorem dX3_choose_1 : decode cX3_choose 1 = .ok (.iload_n 1, 1) := by decide +kernel
theorem dX3_choose_2 : decode cX3_choose 2 = .ok (.putfield 27, 3) := by decide +kernel
theorem dX3_choose_5 : decode cX3_choose 5 = .ok (.aload_n 0, 1) := by decide +kernel
theorem dX3_choose_6 : decode cX3_choose 6 = .ok (.iconst (-1), 1) := by decide +kernel
theorem dX3_choose_7 : decode cX3_choose 7 = .ok (.putfield 30, 3) := by decide +kernel
theorem dX3_choose_10 : decode cX3_choose 10 = .ok (.aload_n 0, 1) := by decide +kernel
theorem dX3_choose_11 : decode cX3_choose 11 = .ok (.iconst 0, 1) := by decide +kernel
theorem dX3_choose_12 : decode cX3_choose 12 = .ok (.iconst 0, 1) := by decide +kernel
theorem dX3_choose_13 : decode cX3_choose 13 = .ok (.aload_n 2, 1) := by decide +kernel
theorem dX3_choose_14 : decode cX3_choose 14 = .ok (.invokevirtual 33, 3) := by decide +kernel
theorem dX3_choose_17 : decode cX3_choose 17 = .ok (.return_, 1) := by decide +kernel
theorem dX3_teach_0 : decode cX3_teach 0 = .ok (.iload_n 1, 1) := by decide +kernel
theorem dX3_teach_1 : decode cX3_teach 1 = .ok (.aload_n 0, 1) := by decide +kernel
theorem dX3_teach_2 : decode cX3_teach 2 = .ok (.getfield 27, 3) := by decide +kernel
theorem dX3_teach_5 : decode cX3_teach 5 = .ok (.if_icmp .lt 9, 3) := by decide +kernel
theorem dX3_teach_8 : decode cX3_teach 8 = .ok (.aload_n 0, 1) := by decide +kernel
theorem dX3_teach_9 : decode cX3_teach 9 = .ok (.iload_n 2, 1) := by decide +kernel
theorem dX3_teach_10 : decode cX3_teach 10 = .ok (.invokevirtual 37, 3) := by decide +kernel
theorem dX3_teach_13 : decode cX3_teach 13 = .ok (.return_, 1) := by decide +kernel
theorem dX3_teach_14 : decode cX3_teach 14 = .ok (.iconst 0, 1) := by decide +kernel
theorem dX3_teach_15 : decode cX3_teach 15 = .ok (.istore 4, 2) := by decide +kernel
theorem dX3_teach_17 : decode cX3_teach 17 = .ok (.iload 4, 2) := by decide +kernel
theorem dX3_teach_19 : decode cX3_teach 19 = .ok (.aload_n 3, 1) := by decide +kernel
theorem dX3_teach_20 : decode cX3_teach 20 = .ok (.getfield 41, 3) := by decide +kernel
theorem dX3_teach_23 : decode cX3_teach 23 = .ok (.if_icmp .ge 56, 3) := by decide +kernel
theorem dX3_teach_26 : decode cX3_teach 26 = .ok (.iload_n 2, 1) := by decide +kernel
theorem dX3_teach_27 : decode cX3_teach 27 = .ok (.aload_n 0, 1) := by decide +kernel
theorem dX3_teach_28 : decode cX3_teach 28 = .ok (.getfield 27, 3) := by decide +kernel
theorem dX3_teach_31 : decode cX3_teach 31 = .ok (.iload_n 1, 1) := by decide +kernel
theorem dX3_teach_32 : decode cX3_teach 32 = .ok (.isub, 1) := by decide +kernel
theorem dX3_teach_33 : decode cX3_teach 33 = .ok (.aload_n 0, 1) := by decide +kernel
theorem dX3_teach_34 : decode cX3_teach 34 = .ok (.getfield 23, 3) := by decide +kernel
theorem dX3_teach_37 : decode cX3_teach 37 = .ok (.imul, 1) := by decide +kernel
theorem dX3_teach_38 : decode cX3_teach 38 = .ok (.iadd, 1) := by decide +kernel
theorem dX3_teach_39 : decode cX3_teach 39 = .ok (.aload_n 0, 1) := by decide +kernel
theorem dX3_teach_40 : decode cX3_teach 40 = .ok (.getfield 30, 3) := by decide +kernel
theorem dX3_teach_43 : decode cX3_teach 43 = .ok (.if_icmp .gt 4, 3) := by decide +kernel
theorem dX3_teach_46 : decode cX3_teach 46 = .ok (.return_, 1) := by decide +kernel
theorem dX3_teach_47 : decode cX3_teach 47 = .ok (.aload_n 0, 1) := by decide +kernel
theorem dX3_teach_48 : decode cX3_teach 48 = .ok (.getfield 16, 3) := by decide +kernel
theorem dX3_teach_51 : decode cX3_teach 51 = .ok (.iload_n 1, 1) := by decide +kernel
theorem dX3_teach_52 : decode cX3_teach 52 = .ok (.iload 4, 2) := by decide +kernel
theorem dX3_teach_54 : decode cX3_teach 54 = .ok (.iastore, 1) := by decide +kernel
theorem dX3_teach_55 : decode cX3_teach 55 = .ok (.aload_n 0, 1) := by decide +kernel
theorem dX3_teach_56 : decode cX3_teach 56 = .ok (.iload_n 1, 1) := by decide +kernel
theorem dX3_teach_57 : decode cX3_teach 57 = .ok (.iconst 1, 1) := by decide +kernel
theorem dX3_teach_58 : decode cX3_teach 58 = .ok (.iadd, 1) := by decide +kernel
theorem dX3_teach_59 : decode cX3_teach 59 = .ok (.iload_n 2, 1) := by decide +kernel
theorem dX3_teach_60 : decode cX3_teach 60 = .ok (.aload_n 0, 1) := by decide +kernel
theorem dX3_teach_61 : decode cX3_teach 61 = .ok (.iload_n 1, 1) := by decide +kernel
theorem dX3_teach_62 : decode cX3_teach 62 = .ok (.iload 4, 2) := by decide +kernel
theorem dX3_teach_64 : decode cX3_teach 64 = .ok (.aload_n 3, 1) := by decide +kernel
theorem dX3_teach_65 : decode cX3_teach 65 = .ok (.invokevirtual 46, 3) := by decide +kernel
theorem dX3_teach_68 : decode cX3_teach 68 = .ok (.iadd, 1) := by decide +kernel
theorem dX3_teach_69 : decode cX3_teach 69 = .ok (.aload_n 3, 1) := by decide +kernel
theorem dX3_teach_70 : decode cX3_teach 70 = .ok (.invokevirtual 33, 3) := by decide +kernel
theorem dX3_teach_73 : decode cX3_teach 73 = .ok (.iinc 4 1, 3) := by decide +kernel
theorem dX3_teach_76 : decode cX3_teach 76 = .ok (.goto (-59), 3) := by decide +kernel
theorem dX3_teach_79 : decode cX3_teach 79 = .ok (.return_, 1) := by decide +kernel
theorem dX3_lesson_0 : decode cX3_lesson 0 = .ok (.iconst 1, 1) := by decide +kernel
theorem dX3_lesson_1 : decode cX3_lesson 1 = .ok (.iload_n 2, 1) := by decide +kernel
theorem dX3_lesson_2 : decode cX3_lesson 2 = .ok (.ishl, 1) := by decide +kernel
theorem dX3_lesson_3 : decode cX3_lesson 3 = .ok (.istore 4, 2) := by decide +kernel
theorem dX3_lesson_5 : decode cX3_lesson 5 = .ok (.iconst 0, 1) := by decide +kernel
theorem dX3_lesson_6 : decode cX3_lesson 6 = .ok (.istore 5, 2) := by decide +kernel
theorem dX3_lesson_8 : decode cX3_lesson 8 = .ok (.iconst 0, 1) := by decide +kernel
theorem dX3_lesson_9 : decode cX3_lesson 9 = .ok (.istore 6, 2) := by decide +kernel
theorem dX3_lesson_11 : decode cX3_lesson 11 = .ok (.iload 6, 2) := by decide +kernel
theorem dX3_lesson_13 : decode cX3_lesson 13 = .ok (.aload_n 0, 1) := by decide +kernel
theorem dX3_lesson_14 : decode cX3_lesson 14 = .ok (.getfield 23, 3) := by decide +kernel
theorem dX3_lesson_17 : decode cX3_lesson 17 = .ok (.if_icmp .ge 89, 3) := by decide +kernel
theorem dX3_lesson_20 : decode cX3_lesson 20 = .ok (.aload_n 0, 1) := by decide +kernel
theorem dX3_lesson_21 : decode cX3_lesson 21 = .ok (.getfield 11, 3) := by decide +kernel
theorem dX3_lesson_24 : decode cX3_lesson 24 = .ok (.iload_n 1, 1) := by decide +kernel
theorem dX3_lesson_25 : decode cX3_lesson 25 = .ok (.aaload, 1) := by decide +kernel
theorem dX3_lesson_26 : decode cX3_lesson 26 = .ok (.iload 6, 2) := by decide +kernel
theorem dX3_lesson_28 : decode cX3_lesson 28 = .ok (.iaload, 1) := by decide +kernel
theorem dX3_lesson_29 : decode cX3_lesson 29 = .ok (.istore 7, 2) := by decide +kernel
theorem dX3_lesson_31 : decode cX3_lesson 31 = .ok (.iload 7, 2) := by decide +kernel
theorem dX3_lesson_33 : decode cX3_lesson 33 = .ok (.iload 4, 2) := by decide +kernel
theorem dX3_lesson_35 : decode cX3_lesson 35 = .ok (.iand, 1) := by decide +kernel
theorem dX3_lesson_36 : decode cX3_lesson 36 = .ok (.ifCond .ne 20, 3) := by decide +kernel
theorem dX3_lesson_39 : decode cX3_lesson 39 = .ok (.aload_n 3, 1) := by decide +kernel
theorem dX3_lesson_40 : decode cX3_lesson 40 = .ok (.getfield 50, 3) := by decide +kernel
theorem dX3_lesson_43 : decode cX3_lesson 43 = .ok (.iload 7, 2) := by decide +kernel
theorem dX3_lesson_45 : decode cX3_lesson 45 = .ok (.iload 4, 2) := by decide +kernel
theorem dX3_lesson_47 : decode cX3_lesson 47 = .ok (.ior, 1) := by decide +kernel
theorem dX3_lesson_48 : decode cX3_lesson 48 = .ok (.baload, 1) := by decide +kernel
theorem dX3_lesson_49 : decode cX3_lesson 49 = .ok (.ifCond .eq 7, 3) := by decide +kernel
theorem dX3_lesson_52 : decode cX3_lesson 52 = .ok (.iconst 1, 1) := by decide +kernel
theorem dX3_lesson_53 : decode cX3_lesson 53 = .ok (.goto 4, 3) := by decide +kernel
theorem dX3_lesson_56 : decode cX3_lesson 56 = .ok (.iconst 0, 1) := by decide +kernel
theorem dX3_lesson_57 : decode cX3_lesson 57 = .ok (.istore 8, 2) := by decide +kernel
theorem dX3_lesson_59 : decode cX3_lesson 59 = .ok (.aload_n 0, 1) := by decide +kernel
theorem dX3_lesson_60 : decode cX3_lesson 60 = .ok (.getfield 11, 3) := by decide +kernel
theorem dX3_lesson_63 : decode cX3_lesson 63 = .ok (.iload_n 1, 1) := by decide +kernel
theorem dX3_lesson_64 : decode cX3_lesson 64 = .ok (.iconst 1, 1) := by decide +kernel
theorem dX3_lesson_65 : decode cX3_lesson 65 = .ok (.iadd, 1) := by decide +kernel
theorem dX3_lesson_66 : decode cX3_lesson 66 = .ok (.aaload, 1) := by decide +kernel
theorem dX3_lesson_67 : decode cX3_lesson 67 = .ok (.iload 6, 2) := by decide +kernel
theorem dX3_lesson_69 : decode cX3_lesson 69 = .ok (.iload 8, 2) := by decide +kernel
theorem dX3_lesson_71 : decode cX3_lesson 71 = .ok (.ifCond .eq 11, 3) := by decide +kernel
theorem dX3_lesson_74 : decode cX3_lesson 74 = .ok (.iload 7, 2) := by decide +kernel
theorem dX3_lesson_76 : decode cX3_lesson 76 = .ok (.iload 4, 2) := by decide +kernel
theorem dX3_lesson_78 : decode cX3_lesson 78 = .ok (.ior, 1) := by decide +kernel
theorem dX3_lesson_79 : decode cX3_lesson 79 = .ok (.goto 5, 3) := by decide +kernel
theorem dX3_lesson_82 : decode cX3_lesson 82 = .ok (.iload 7, 2) := by decide +kernel
theorem dX3_lesson_84 : decode cX3_lesson 84 = .ok (.iastore, 1) := by decide +kernel
theorem dX3_lesson_85 : decode cX3_lesson 85 = .ok (.iload 5, 2) := by decide +kernel
theorem dX3_lesson_87 : decode cX3_lesson 87 = .ok (.iload 8, 2) := by decide +kernel
theorem dX3_lesson_89 : decode cX3_lesson 89 = .ok (.ifCond .eq 7, 3) := by decide +kernel
theorem dX3_lesson_92 : decode cX3_lesson 92 = .ok (.iconst 1, 1) := by decide +kernel
theorem dX3_lesson_93 : decode cX3_lesson 93 = .ok (.goto 4, 3) := by decide +kernel
theorem dX3_lesson_96 : decode cX3_lesson 96 = .ok (.iconst 0, 1) := by decide +kernel
theorem dX3_lesson_97 : decode cX3_lesson 97 = .ok (.iadd, 1) := by decide +kernel
theorem dX3_lesson_98 : decode cX3_lesson 98 = .ok (.istore 5, 2) := by decide +kernel
theorem dX3_lesson_100 : decode cX3_lesson 100 = .ok (.iinc 6 1, 3) := by decide +kernel
theorem dX3_lesson_103 : decode cX3_lesson 103 = .ok (.goto (-92), 3) := by decide +kernel
theorem dX3_lesson_106 : decode cX3_lesson 106 = .ok (.iload 5, 2) := by decide +kernel
theorem dX3_lesson_108 : decode cX3_lesson 108 = .ok (.ireturn, 1) := by decide +kernel
theorem dX3_judge_0 : decode cX3_judge 0 = .ok (.iload_n 1, 1) := by decide +kernel
theorem dX3_judge_1 : decode cX3_judge 1 = .ok (.aload_n 0, 1) := by decide +kernel
theorem dX3_judge_2 : decode cX3_judge 2 = .ok (.getfield 30, 3) := by decide +kernel
theorem dX3_judge_5 : decode cX3_judge 5 = .ok (.if_icmp .le 25, 3) := by decide +kernel
theorem dX3_judge_8 : decode cX3_judge 8 = .ok (.aload_n 0, 1) := by decide +kernel
theorem dX3_judge_9 : decode cX3_judge 9 = .ok (.iload_n 1, 1) := by decide +kernel
theorem dX3_judge_10 : decode cX3_judge 10 = .ok (.putfield 30, 3) := by decide +kernel
theorem dX3_judge_13 : decode cX3_judge 13 = .ok (.aload_n 0, 1) := by decide +kernel
theorem dX3_judge_14 : decode cX3_judge 14 = .ok (.getfield 16, 3) := by decide +kernel
theorem dX3_judge_17 : decode cX3_judge 17 = .ok (.iconst 0, 1) := by decide +kernel
theorem dX3_judge_18 : decode cX3_judge 18 = .ok (.aload_n 0, 1) := by decide +kernel
theorem dX3_judge_19 : decode cX3_judge 19 = .ok (.getfield 20, 3) := by decide +kernel
theorem dX3_judge_22 : decode cX3_judge 22 = .ok (.iconst 0, 1) := by decide +kernel
theorem dX3_judge_23 : decode cX3_judge 23 = .ok (.aload_n 0, 1) := by decide +kernel
theorem dX3_judge_24 : decode cX3_judge 24 = .ok (.getfield 27, 3) := by decide +kernel
theorem dX3_judge_27 : decode cX3_judge 27 = .ok (.invokestatic 54, 3) := by decide +kernel
theorem dX3_judge_30 : decode cX3_judge 30 = .ok (.return_, 1) := by decide +kernel
theorem dX4_init_0 : decode cX4_init 0 = .ok (.aload_n 0, 1) := by decide +kernel
theorem dX4_init_1 : decode cX4_init 1 = .ok (.invokespecial 3, 3) := by decide +kernel
theorem dX4_init_4 : decode cX4_init 4 = .ok (.aload_n 0, 1) := by decide +kernel
theorem dX4_init_5 : decode cX4_init 5 = .ok (.bipush 7, 2) := by decide +kernel
theorem dX4_init_7 : decode cX4_init 7 = .ok (.newarray .long, 2) := by decide +kernel
theorem dX4_init_9 : decode cX4_init 9 = .ok (.putfield 9, 3) := by decide +kernel
theorem dX4_init_12 : decode cX4_init 12 = .ok (.aload_n 0, 1) := by decide +kernel
theorem dX4_init_13 : decode cX4_init 13 = .ok (.bipush 7, 2) := by decide +kernel
theorem dX4_init_15 : decode cX4_init 15 = .ok (.newarray .long, 2) := by decide +kernel
theorem dX4_init_17 : decode cX4_init 17 = .ok (.putfield 15, 3) := by decide +kernel
theorem dX4_init_20 : decode cX4_init 20 = .ok (.aload_n 0, 1) := by decide +kernel
theorem dX4_init_21 : decode cX4_init 21 = .ok (.sipush 128, 3) := by decide +kernel
theorem dX4_init_24 : decode cX4_init 24 = .ok (.newarray .long, 2) := by decide +kernel
theorem dX4_init_26 : decode cX4_init 26 = .ok (.putfield 18, 3) := by decide +kernel
theorem dX4_init_29 : decode cX4_init 29 = .ok (.aload_n 0, 1) := by decide +kernel
theorem dX4_init_30 : decode cX4_init 30 = .ok (.sipush 128, 3) := by decide +kernel
theorem dX4_init_33 : decode cX4_init 33 = .ok (.newarray .long, 2) := by decide +kernel
theorem dX4_init_35 : decode cX4_init 35 = .ok (.putfield 21, 3) := by decide +kernel
theorem dX4_init_38 : decode cX4_init 38 = .ok (.aload_n 0, 1) := by decide +kernel
theorem dX4_init_39 : decode cX4_init 39 = .ok (.bipush 7, 2) := by decide +kernel
theorem dX4_init_41 : decode cX4_init 41 = .ok (.newarray .int, 2) := by decide +kernel
theorem dX4_init_43 : decode cX4_init 43 = .ok (.putfield 24, 3) := by decide +kernel
theorem dX4_init_46 : decode cX4_init 46 = .ok (.aload_n 0, 1) := by decide +kernel
theorem dX4_init_47 : decode cX4_init 47 = .ok (.bipush 7, 2) := by decide +kernel
theorem dX4_init_49 : decode cX4_init 49 = .ok (.newarray .int, 2) := by decide +kernel
theorem dX4_init_51 : decode cX4_init 51 = .ok (.putfield 28, 3) := by decide +kernel
theorem dX4_init_54 : decode cX4_init 54 = .ok (.aload_n 0, 1) := by decide +kernel
theorem dX4_init_55 : decode cX4_init 55 = .ok (.bipush 14, 2) := by decide +kernel
theorem dX4_init_57 : decode cX4_init 57 = .ok (.newarray .int, 2) := by decide +kernel
theorem dX4_init_59 : decode cX4_init 59 = .ok (.putfield 31, 3) := by decide +kernel
theorem dX4_init_62 : decode cX4_init 62 = .ok (.return_, 1) := by decide +kernel
theorem dX4_searchBest_0 : decode cX4_searchBest 0 = .ok (.aload_n 0, 1) := by decide +kernel
theorem dX4_searchBest_1 : decode cX4_searchBest 1 = .ok (.getfield 34, 3) := by decide +kernel
theorem dX4_searchBest_4 : decode cX4_searchBest 4 = .ok (.ifCond .eq 4, 3) := by decide +kernel
theorem dX4_searchBest_7 : decode cX4_searchBest 7 = .ok (.return_, 1) := by decide +kernel
theorem dX4_searchBest_8 : decode cX4_searchBest 8 = .ok (.aload_n 0, 1) := by decide +kernel
theorem dX4_searchBest_9 : decode cX4_searchBest 9 = .ok (.aload_n 1, 1) := by decide +kernel
theorem dX4_searchBest_10 : decode cX4_searchBest 10 = .ok (.invokevirtual 38, 3) := by decide +kernel
theorem dX4_searchBest_13 : decode cX4_searchBest 13 = .ok (.aload_n 0, 1) := by decide +kernel
theorem dX4_searchBest_14 : decode cX4_searchBest 14 = .ok (.getfield 31, 3) := by decide +kernel
theorem dX4_searchBest_17 : decode cX4_searchBest 17 = .ok (.iconst (-1), 1) := by decide +kernel
theorem dX4_searchBest_18 : decode cX4_searchBest 18 = .ok (.invokestatic 42, 3) := by decide +kernel
theorem dX4_searchBest_21 : decode cX4_searchBest 21 = .ok (.aload_n 0, 1) := by decide +kernel
theorem dX4_searchBest_22 : decode cX4_searchBest 22 = .ok (.iconst 1, 1) := by decide +kernel
theorem dX4_searchBest_23 : decode cX4_searchBest 23 = .ok (.putfield 48, 3) := by decide +kernel
theorem dX4_searchBest_26 : decode cX4_searchBest 26 = .ok (.aload_n 0, 1) := by decide +kernel
theorem dX4_searchBest_27 : decode cX4_searchBest 27 = .ok (.aload_n 0, 1) := by decide +kernel
theorem dX4_searchBest_28 : decode cX4_searchBest 28 = .ok (.getfield 51, 3) := by decide +kernel
theorem dX4_searchBest_31 : decode cX4_searchBest 31 = .ok (.invokevirtual 55, 3) := by decide +kernel
theorem dX4_searchBest_34 : decode cX4_searchBest 34 = .ok (.aload_n 0, 1) := by decide +kernel
theorem dX4_searchBest_35 : decode cX4_searchBest 35 = .ok (.iconst 0, 1) := by decide +kernel
theorem dX4_searchBest_36 : decode cX4_searchBest 36 = .ok (.putfield 48, 3) := by decide +kernel
theorem dX4_searchBest_39 : decode cX4_searchBest 39 = .ok (.aload_n 0, 1) := by decide +kernel
theorem dX4_searchBest_40 : decode cX4_searchBest 40 = .ok (.aload_n 0, 1) := by decide +kernel
theorem dX4_searchBest_41 : decode cX4_searchBest 41 = .ok (.getfield 59, 3) := by decide +kernel
theorem dX4_searchBest_44 : decode cX4_searchBest 44 = .ok (.putfield 62, 3) := by decide +kernel
theorem dX4_searchBest_47 : decode cX4_searchBest 47 = .ok (.aload_n 0, 1) := by decide +kernel
theorem dX4_searchBest_48 : decode cX4_searchBest 48 = .ok (.aload_n 0, 1) := by decide +kernel
theorem dX4_searchBest_49 : decode cX4_searchBest 49 = .ok (.getfield 65, 3) := by decide +kernel
theorem dX4_searchBest_52 : decode cX4_searchBest 52 = .ok (.putfield 68, 3) := by decide +kernel
theorem dX4_searchBest_55 : decode cX4_searchBest 55 = .ok (.aload_n 0, 1) := by decide +kernel
theorem dX4_searchBest_56 : decode cX4_searchBest 56 = .ok (.iconst 1, 1) := by decide +kernel
theorem dX4_searchBest_57 : decode cX4_searchBest 57 = .ok (.putfield 34, 3) := by decide +kernel
theorem dX4_searchBest_60 : decode cX4_searchBest 60 = .ok (.return_, 1) := by decide +kernel
theorem dX4_offChanged_0 : decode cX4_offChanged 0 = .ok (.iload_n 2, 1) := by decide +kernel
theorem dX4_offChanged_1 : decode cX4_offChanged 1 = .ok (.bipush 7, 2) := by decide +kernel
theorem dX4_offChanged_3 : decode cX4_offChanged 3 = .ok (.imul, 1) := by decide +kernel
theorem dX4_offChanged_4 : decode cX4_offChanged 4 = .ok (.iload_n 1, 1) := by decide +kernel
theorem dX4_offChanged_5 : decode cX4_offChanged 5 = .ok (.iadd, 1) := by decide +kernel
theorem dX4_offChanged_6 : decode cX4_offChanged 6 = .ok (.istore_n 3, 1) := by decide +kernel
theorem dX4_offChanged_7 : decode cX4_offChanged 7 = .ok (.aload_n 0, 1) := by decide +kernel
theorem dX4_offChanged_8 : decode cX4_offChanged 8 = .ok (.getfield 31, 3) := by decide +kernel
theorem dX4_offChanged_11 : decode cX4_offChanged 11 = .ok (.iload_n 3, 1) := by decide +kernel
theorem dX4_offChanged_12 : decode cX4_offChanged 12 = .ok (.iaload, 1) := by decide +kernel
theorem dX4_offChanged_13 : decode cX4_offChanged 13 = .ok (.iconst (-1), 1) := by decide +kernel
theorem dX4_offChanged_14 : decode cX4_offChanged 14 = .ok (.if_icmp .ne 53, 3) := by decide +kernel
theorem dX4_offChanged_17 : decode cX4_offChanged 17 = .ok (.iload_n 2, 1) := by decide +kernel
theorem dX4_offChanged_18 : decode cX4_offChanged 18 = .ok (.iconst 1, 1) := by decide +kernel
theorem dX4_offChanged_19 : decode cX4_offChanged 19 = .ok (.if_icmp .ne 24, 3) := by decide +kernel
theorem dX4_offChanged_22 : decode cX4_offChanged 22 = .ok (.aload_n 0, 1) := by decide +kernel
theorem dX4_offChanged_23 : decode cX4_offChanged 23 = .ok (.iload_n 1, 1) := by decide +kernel
theorem dX4_offChanged_24 : decode cX4_offChanged 24 = .ok (.invokevirtual 71, 3) := by decide +kernel
theorem dX4_offChanged_27 : decode cX4_offChanged 27 = .ok (.aload_n 0, 1) := by decide +kernel
theorem dX4_offChanged_28 : decode cX4_offChanged 28 = .ok (.aload_n 0, 1) := by decide +kernel
theorem dX4_offChanged_29 : decode cX4_offChanged 29 = .ok (.getfield 51, 3) := by decide +kernel
theorem dX4_offChanged_32 : decode cX4_offChanged 32 = .ok (.invokevirtual 55, 3) := by decide +kernel
theorem dX4_offChanged_35 : decode cX4_offChanged 35 = .ok (.aload_n 0, 1) := by decide +kernel
theorem dX4_offChanged_36 : decode cX4_offChanged 36 = .ok (.iload_n 1, 1) := by decide +kernel
theorem dX4_offChanged_37 : decode cX4_offChanged 37 = .ok (.invokevirtual 71, 3) := by decide +kernel
theorem dX4_offChanged_40 : decode cX4_offChanged 40 = .ok (.goto 17, 3) := by decide +kernel
theorem dX4_offChanged_43 : decode cX4_offChanged 43 = .ok (.aload_n 0, 1) := by decide +kernel
theorem dX4_offChanged_44 : decode cX4_offChanged 44 = .ok (.aload_n 0, 1) := by decide +kernel
theorem dX4_offChanged_45 : decode cX4_offChanged 45 = .ok (.getfield 51, 3) := by decide +kernel
theorem dX4_offChanged_48 : decode cX4_offChanged 48 = .ok (.iconst 1, 1) := by decide +kernel
theorem dX4_offChanged_49 : decode cX4_offChanged 49 = .ok (.iload_n 1, 1) := by decide +kernel
theorem dX4_offChanged_50 : decode cX4_offChanged 50 = .ok (.ishl, 1) := by decide +kernel
theorem dX4_offChanged_51 : decode cX4_offChanged 51 = .ok (.iconst (-1), 1) := by decide +kernel
theorem dX4_offChanged_52 : decode cX4_offChanged 52 = .ok (.ixor, 1) := by decide +kernel
theorem dX4_offChanged_53 : decode cX4_offChanged 53 = .ok (.iand, 1) := by decide +kernel
theorem dX4_offChanged_54 : decode cX4_offChanged 54 = .ok (.invokevirtual 55, 3) := by decide +kernel
theorem dX4_offChanged_57 : decode cX4_offChanged 57 = .ok (.aload_n 0, 1) := by decide +kernel
theorem dX4_offChanged_58 : decode cX4_offChanged 58 = .ok (.getfield 31, 3) := by decide +kernel
theorem dX4_offChanged_61 : decode cX4_offChanged 61 = .ok (.iload_n 3, 1) := by decide +kernel
theorem dX4_offChanged_62 : decode cX4_offChanged 62 = .ok (.aload_n 0, 1) := by decide +kernel
theorem dX4_offChanged_63 : decode cX4_offChanged 63 = .ok (.getfield 59, 3) := by decide +kernel
theorem dX4_offChanged_66 : decode cX4_offChanged 66 = .ok (.iastore, 1) := by decide +kernel
theorem dX4_offChanged_67 : decode cX4_offChanged 67 = .ok (.aload_n 0, 1) := by decide +kernel
theorem dX4_offChanged_68 : decode cX4_offChanged 68 = .ok (.getfield 31, 3) := by decide +kernel
theorem dX4_offChanged_71 : decode cX4_offChanged 71 = .ok (.iload_n 3, 1) := by decide +kernel
theorem dX4_offChanged_72 : decode cX4_offChanged 72 = .ok (.iaload, 1) := by decide +kernel
theorem dX4_offChanged_73 : decode cX4_offChanged 73 = .ok (.ireturn, 1) := by decide +kernel
theorem dX4_takeAnswers_0 : decode cX4_takeAnswers 0 = .ok (.aload_n 0, 1) := by decide +kernel
theorem dX4_takeAnswers_1 : decode cX4_takeAnswers 1 = .ok (.aload_n 1, 1) := by decide +kernel
theorem dX4_takeAnswers_2 : decode cX4_takeAnswers 2 = .ok (.getfield 74, 3) := by decide +kernel
theorem dX4_takeAnswers_5 : decode cX4_takeAnswers 5 = .ok (.putfield 79, 3) := by decide +kernel
theorem dX4_takeAnswers_8 : decode cX4_takeAnswers 8 = .ok (.aload_n 0, 1) := by decide +kernel
theorem dX4_takeAnswers_9 : decode cX4_takeAnswers 9 = .ok (.aload_n 1, 1) := by decide +kernel
theorem dX4_takeAnswers_10 : decode cX4_takeAnswers 10 = .ok (.getfield 80, 3) := by decide +kernel
theorem dX4_takeAnswers_13 : decode cX4_takeAnswers 13 = .ok (.putfield 51, 3) := by decide +kernel
theorem dX4_takeAnswers_16 : decode cX4_takeAnswers 16 = .ok (.aload_n 0, 1) := by decide +kernel
theorem dX4_takeAnswers_17 : decode cX4_takeAnswers 17 = .ok (.getfield 9, 3) := by decide +kernel
theorem dX4_takeAnswers_20 : decode cX4_takeAnswers 20 = .ok (.lconst 0, 1) := by decide +kernel
theorem dX4_takeAnswers_21 : decode cX4_takeAnswers 21 = .ok (.invokestatic 81, 3) := by decide +kernel
theorem dX4_takeAnswers_24 : decode cX4_takeAnswers 24 = .ok (.aload_n 0, 1) := by decide +kernel
theorem dX4_takeAnswers_25 : decode cX4_takeAnswers 25 = .ok (.getfield 15, 3) := by decide +kernel
theorem dX4_takeAnswers_28 : decode cX4_takeAnswers 28 = .ok (.lconst 0, 1) := by decide +kernel
theorem dX4_takeAnswers_29 : decode cX4_takeAnswers 29 = .ok (.invokestatic 81, 3) := by decide +kernel
theorem dX4_takeAnswers_32 : decode cX4_takeAnswers 32 = .ok (.iconst 0, 1) := by decide +kernel
theorem dX4_takeAnswers_33 : decode cX4_takeAnswers 33 = .ok (.istore_n 2, 1) := by decide +kernel
theorem dX4_takeAnswers_34 : decode cX4_takeAnswers 34 = .ok (.iload_n 2, 1) := by decide +kernel
theorem dX4_takeAnswers_35 : decode cX4_takeAnswers 35 = .ok (.bipush 12, 2) := by decide +kernel
theorem dX4_takeAnswers_37 : decode cX4_takeAnswers 37 = .ok (.if_icmp .ge 83, 3) := by decide +kernel
theorem dX4_takeAnswers_40 : decode cX4_takeAnswers 40 = .ok (.lconst 1, 1) := by decide +kernel
theorem dX4_takeAnswers_41 : decode cX4_takeAnswers 41 = .ok (.iconst 4, 1) := by decide +kernel
theorem dX4_takeAnswers_42 : decode cX4_takeAnswers 42 = .ok (.iload_n 2, 1) := by decide +kernel
theorem dX4_takeAnswers_43 : decode cX4_takeAnswers 43 = .ok (.imul, 1) := by decide +kernel
theorem dX4_takeAnswers_44 : decode cX4_takeAnswers 44 = .ok (.lshl, 1) := by decide +kernel
theorem dX4_takeAnswers_45 : decode cX4_takeAnswers 45 = .ok (.lstore_n 3, 1) := by decide +kernel
theorem dX4_takeAnswers_46 : decode cX4_takeAnswers 46 = .ok (.iconst 0, 1) := by decide +kernel
theorem dX4_takeAnswers_47 : decode cX4_takeAnswers 47 = .ok (.istore 5, 2) := by decide +kernel
theorem dX4_takeAnswers_49 : decode cX4_takeAnswers 49 = .ok (.iload 5, 2) := by decide +kernel
theorem dX4_takeAnswers_51 : decode cX4_takeAnswers 51 = .ok (.aload_n 0, 1) := by decide +kernel
theorem dX4_takeAnswers_52 : decode cX4_takeAnswers 52 = .ok (.getfield 79, 3) := by decide +kernel
theorem dX4_takeAnswers_55 : decode cX4_takeAnswers 55 = .ok (.if_icmp .ge 59, 3) := by decide +kernel
theorem dX4_takeAnswers_58 : decode cX4_takeAnswers 58 = .ok (.aload_n 1, 1) := by decide +kernel
theorem dX4_takeAnswers_59 : decode cX4_takeAnswers 59 = .ok (.iload_n 2, 1) := by decide +kernel
theorem dX4_takeAnswers_60 : decode cX4_takeAnswers 60 = .ok (.iload 5, 2) := by decide +kernel
theorem dX4_takeAnswers_62 : decode cX4_takeAnswers 62 = .ok (.invokevirtual 84, 3) := by decide +kernel
theorem dX4_takeAnswers_65 : decode cX4_takeAnswers 65 = .ok (.istore 6, 2) := by decide +kernel
theorem dX4_takeAnswers_67 : decode cX4_takeAnswers 67 = .ok (.aload_n 0, 1) := by decide +kernel
theorem dX4_takeAnswers_68 : decode cX4_takeAnswers 68 = .ok (.getfield 9, 3) := by decide +kernel
theorem dX4_takeAnswers_71 : decode cX4_takeAnswers 71 = .ok (.iload 5, 2) := by decide +kernel
theorem dX4_takeAnswers_73 : decode cX4_takeAnswers 73 = .ok (.dup2, 1) := by decide +kernel
theorem dX4_takeAnswers_74 : decode cX4_takeAnswers 74 = .ok (.laload, 1) := by decide +kernel
theorem dX4_takeAnswers_75 : decode cX4_takeAnswers 75 = .ok (.iload 6, 2) := by decide +kernel
theorem dX4_takeAnswers_77 : decode cX4_takeAnswers 77 = .ok (.iconst 1, 1) := by decide +kernel
theorem dX4_takeAnswers_78 : decode cX4_takeAnswers 78 = .ok (.if_icmp .ne 7, 3) := by decide +kernel
theorem dX4_takeAnswers_81 : decode cX4_takeAnswers 81 = .ok (.lload_n 3, 1) := by decide +kernel
theorem dX4_takeAnswers_82 : decode cX4_takeAnswers 82 = .ok (.goto 4, 3) := by decide +kernel
theorem dX4_takeAnswers_85 : decode cX4_takeAnswers 85 = .ok (.lconst 0, 1) := by decide +kernel
theorem dX4_takeAnswers_86 : decode cX4_takeAnswers 86 = .ok (.ladd, 1) := by decide +kernel
theorem dX4_takeAnswers_87 : decode cX4_takeAnswers 87 = .ok (.lastore, 1) := by decide +kernel
theorem dX4_takeAnswers_88 : decode cX4_takeAnswers 88 = .ok (.aload_n 0, 1) := by decide +kernel
theorem dX4_takeAnswers_89 : decode cX4_takeAnswers 89 = .ok (.getfield 15, 3) := by decide +kernel
theorem dX4_takeAnswers_92 : decode cX4_takeAnswers 92 = .ok (.iload 5, 2) := by decide +kernel
theorem dX4_takeAnswers_94 : decode cX4_takeAnswers 94 = .ok (.dup2, 1) := by decide +kernel
theorem dX4_takeAnswers_95 : decode cX4_takeAnswers 95 = .ok (.laload, 1) := by decide +kernel
theorem dX4_takeAnswers_96 : decode cX4_takeAnswers 96 = .ok (.iload 6, 2) := by decide +kernel
theorem dX4_takeAnswers_98 : decode cX4_takeAnswers 98 = .ok (.ifCond .ne 7, 3) := by decide +kernel
theorem dX4_takeAnswers_101 : decode cX4_takeAnswers 101 = .ok (.lload_n 3, 1) := by decide +kernel
theorem dX4_takeAnswers_102 : decode cX4_takeAnswers 102 = .ok (.goto 4, 3) := by decide +kernel
theorem dX4_takeAnswers_105 : decode cX4_takeAnswers 105 = .ok (.lconst 0, 1) := by decide +kernel
theorem dX4_takeAnswers_106 : decode cX4_takeAnswers 106 = .ok (.ladd, 1) := by decide +kernel
theorem dX4_takeAnswers_107 : decode cX4_takeAnswers 107 = .ok (.lastore, 1) := by decide +kernel
theorem dX4_takeAnswers_108 : decode cX4_takeAnswers 108 = .ok (.iinc 5 1, 3) := by decide +kernel
theorem dX4_takeAnswers_111 : decode cX4_takeAnswers 111 = .ok (.goto (-62), 3) := by decide +kernel
theorem dX4_takeAnswers_114 : decode cX4_takeAnswers 114 = .ok (.iinc 2 1, 3) := by decide +kernel
theorem dX4_takeAnswers_117 : decode cX4_takeAnswers 117 = .ok (.goto (-83), 3) := by decide +kernel
theorem dX4_takeAnswers_120 : decode cX4_takeAnswers 120 = .ok (.return_, 1) := by decide +kernel
theorem dX4_turn_0 : decode cX4_turn 0 = .ok (.aload_n 0, 1) := by decide +kernel
theorem dX4_turn_1 : decode cX4_turn 1 = .ok (.getfield 9, 3) := by decide +kernel
theorem dX4_turn_4 : decode cX4_turn 4 = .ok (.iload_n 1, 1) := by decide +kernel
theorem dX4_turn_5 : decode cX4_turn 5 = .ok (.laload, 1) := by decide +kernel
theorem dX4_turn_6 : decode cX4_turn 6 = .ok (.lstore_n 2, 1) := by decide +kernel
theorem dX4_turn_7 : decode cX4_turn 7 = .ok (.aload_n 0, 1) := by decide +kernel
theorem dX4_turn_8 : decode cX4_turn 8 = .ok (.getfield 9, 3) := by decide +kernel
theorem dX4_turn_11 : decode cX4_turn 11 = .ok (.iload_n 1, 1) := by decide +kernel
theorem dX4_turn_12 : decode cX4_turn 12 = .ok (.aload_n 0, 1) := by decide +kernel
theorem dX4_turn_13 : decode cX4_turn 13 = .ok (.getfield 15, 3) := by decide +kernel
theorem dX4_turn_16 : decode cX4_turn 16 = .ok (.iload_n 1, 1) := by decide +kernel
theorem dX4_turn_17 : decode cX4_turn 17 = .ok (.laload, 1) := by decide +kernel
theorem dX4_turn_18 : decode cX4_turn 18 = .ok (.lastore, 1) := by decide +kernel
theorem dX4_turn_19 : decode cX4_turn 19 = .ok (.aload_n 0, 1) := by decide +kernel
theorem dX4_turn_20 : decode cX4_turn 20 = .ok (.getfield 15, 3) := by decide +kernel
theorem dX4_turn_23 : decode cX4_turn 23 = .ok (.iload_n 1, 1) := by decide +kernel
theorem dX4_turn_24 : decode cX4_turn 24 = .ok (.lload_n 2, 1) := by decide +kernel
theorem dX4_turn_25 : decode cX4_turn 25 = .ok (.lastore, 1) := by decide +kernel
theorem dX4_turn_26 : decode cX4_turn 26 = .ok (.return_, 1) := by decide +kernel
theorem dX4_search_0 : decode cX4_search 0 = .ok (.aload_n 0, 1) := by decide +kernel
theorem dX4_search_1 : decode cX4_search 1 = .ok (.iload_n 1, 1) := by decide +kernel
theorem dX4_search_2 : decode cX4_search 2 = .ok (.putfield 88, 3) := by decide +kernel
theorem dX4_search_5 : decode cX4_search 5 = .ok (.aload_n 0, 1) := by decide +kernel
theorem dX4_search_6 : decode cX4_search 6 = .ok (.invokevirtual 91, 3) := by decide +kernel
theorem dX4_search_9 : decode cX4_search 9 = .ok (.aload_n 0, 1) := by decide +kernel
theorem dX4_search_10 : decode cX4_search 10 = .ok (.getfield 18, 3) := by decide +kernel
theorem dX4_search_13 : decode cX4_search 13 = .ok (.iconst 0, 1) := by decide +kernel
theorem dX4_search_14 : decode cX4_search 14 = .ok (.laload, 1) := by decide +kernel
theorem dX4_search_15 : decode cX4_search 15 = .ok (.aload_n 0, 1) := by decide +kernel
theorem dX4_search_16 : decode cX4_search 16 = .ok (.getfield 18, 3) := by decide +kernel
theorem dX4_search_19 : decode cX4_search 19 = .ok (.aload_n 0, 1) := by decide +kernel
theorem dX4_search_20 : decode cX4_search 20 = .ok (.getfield 88, 3) := by decide +kernel
theorem dX4_search_23 : decode cX4_search 23 = .ok (.laload, 1) := by decide +kernel
theorem dX4_search_24 : decode cX4_search 24 = .ok (.invokestatic 94, 3) := by decide +kernel
theorem dX4_search_27 : decode cX4_search 27 = .ok (.lstore_n 2, 1) := by decide +kernel
theorem dX4_search_28 : decode cX4_search 28 = .ok (.aload_n 0, 1) := by decide +kernel
theorem dX4_search_29 : decode cX4_search 29 = .ok (.lload_n 2, 1) := by decide +kernel
theorem dX4_search_30 : decode cX4_search 30 = .ok (.invokestatic 98, 3) := by decide +kernel
theorem dX4_search_33 : decode cX4_search 33 = .ok (.putfield 59, 3) := by decide +kernel
theorem dX4_search_36 : decode cX4_search 36 = .ok (.aload_n 0, 1) := by decide +kernel
theorem dX4_search_37 : decode cX4_search 37 = .ok (.iconst 0, 1) := by decide +kernel
theorem dX4_search_38 : decode cX4_search 38 = .ok (.putfield 65, 3) := by decide +kernel
theorem dX4_search_41 : decode cX4_search 41 = .ok (.aload_n 0, 1) := by decide +kernel
theorem dX4_search_42 : decode cX4_search 42 = .ok (.iconst 0, 1) := by decide +kernel
theorem dX4_search_43 : decode cX4_search 43 = .ok (.iconst 0, 1) := by decide +kernel
theorem dX4_search_44 : decode cX4_search 44 = .ok (.lload_n 2, 1) := by decide +kernel
theorem dX4_search_45 : decode cX4_search 45 = .ok (.invokevirtual 102, 3) := by decide +kernel
theorem dX4_search_48 : decode cX4_search 48 = .ok (.return_, 1) := by decide +kernel
theorem dX4_fillTables_0 : decode cX4_fillTables 0 = .ok (.aload_n 0, 1) := by decide +kernel
theorem dX4_fillTables_1 : decode cX4_fillTables 1 = .ok (.getfield 18, 3) := by decide +kernel
theorem dX4_fillTables_4 : decode cX4_fillTables 4 = .ok (.iconst 0, 1) := by decide +kernel
theorem dX4_fillTables_5 : decode cX4_fillTables 5 = .ok (.lconst 0, 1) := by decide +kernel
theorem dX4_fillTables_6 : decode cX4_fillTables 6 = .ok (.lastore, 1) := by decide +kernel
theorem dX4_fillTables_7 : decode cX4_fillTables 7 = .ok (.aload_n 0, 1) := by decide +kernel
theorem dX4_fillTables_8 : decode cX4_fillTables 8 = .ok (.getfield 21, 3) := by decide +kernel
theorem dX4_fillTables_11 : decode cX4_fillTables 11 = .ok (.iconst 0, 1) := by decide +kernel
theorem dX4_fillTables_12 : decode cX4_fillTables 12 = .ok (.lconst 0, 1) := by decide +kernel
theorem dX4_fillTables_13 : decode cX4_fillTables 13 = .ok (.lastore, 1) := by decide +kernel
theorem dX4_fillTables_14 : decode cX4_fillTables 14 = .ok (.iconst 0, 1) := by decide +kernel
theorem dX4_fillTables_15 : decode cX4_fillTables 15 = .ok (.istore_n 1, 1) := by decide +kernel
theorem dX4_fillTables_16 : decode cX4_fillTables 16 = .ok (.iload_n 1, 1) := by decide +kernel
theorem dX4_fillTables_17 : decode cX4_fillTables 17 = .ok (.aload_n 0, 1) := by decide +kernel
theorem dX4_fillTables_18 : decode cX4_fillTables 18 = .ok (.getfield 79, 3) := by decide +kernel
theorem dX4_fillTables_21 : decode cX4_fillTables 21 = .ok (.if_icmp .ge 39, 3) := by decide +kernel
theorem dX4_fillTables_24 : decode cX4_fillTables 24 = .ok (.aload_n 0, 1) := by decide +kernel
theorem dX4_fillTables_25 : decode cX4_fillTables 25 = .ok (.getfield 18, 3) := by decide +kernel
theorem dX4_fillTables_28 : decode cX4_fillTables 28 = .ok (.iconst 0, 1) := by decide +kernel
theorem dX4_fillTables_29 : decode cX4_fillTables 29 = .ok (.dup2, 1) := by decide +kernel
theorem dX4_fillTables_30 : decode cX4_fillTables 30 = .ok (.laload, 1) := by decide +kernel
theorem dX4_fillTables_31 : decode cX4_fillTables 31 = .ok (.aload_n 0, 1) := by decide +kernel
theorem dX4_fillTables_32 : decode cX4_fillTables 32 = .ok (.getfield 88, 3) := by decide +kernel
theorem dX4_fillTables_35 : decode cX4_fillTables 35 = .ok (.iconst 1, 1) := by decide +kernel
theorem dX4_fillTables_36 : decode cX4_fillTables 36 = .ok (.iload_n 1, 1) := by decide +kernel
theorem dX4_fillTables_37 : decode cX4_fillTables 37 = .ok (.ishl, 1) := by decide +kernel
theorem dX4_fillTables_38 : decode cX4_fillTables 38 = .ok (.iand, 1) := by decide +kernel
theorem dX4_fillTables_39 : decode cX4_fillTables 39 = .ok (.ifCond .eq 12, 3) := by decide +kernel
theorem dX4_fillTables_42 : decode cX4_fillTables 42 = .ok (.aload_n 0, 1) := by decide +kernel
theorem dX4_fillTables_43 : decode cX4_fillTables 43 = .ok (.getfield 9, 3) := by decide +kernel
theorem dX4_fillTables_46 : decode cX4_fillTables 46 = .ok (.iload_n 1, 1) := by decide +kernel
theorem dX4_fillTables_47 : decode cX4_fillTables 47 = .ok (.laload, 1) := by decide +kernel
theorem dX4_fillTables_48 : decode cX4_fillTables 48 = .ok (.goto 4, 3) := by decide +kernel
theorem dX4_fillTables_51 : decode cX4_fillTables 51 = .ok (.lconst 0, 1) := by decide +kernel
theorem dX4_fillTables_52 : decode cX4_fillTables 52 = .ok (.ladd, 1) := by decide +kernel
theorem dX4_fillTables_53 : decode cX4_fillTables 53 = .ok (.lastore, 1) := by decide +kernel
theorem dX4_fillTables_54 : decode cX4_fillTables 54 = .ok (.iinc 1 1, 3) := by decide +kernel
theorem dX4_fillTables_57 : decode cX4_fillTables 57 = .ok (.goto (-41), 3) := by decide +kernel
theorem dX4_fillTables_60 : decode cX4_fillTables 60 = .ok (.iconst 1, 1) := by decide +kernel
theorem dX4_fillTables_61 : decode cX4_fillTables 61 = .ok (.istore_n 1, 1) := by decide +kernel
theorem dX4_fillTables_62 : decode cX4_fillTables 62 = .ok (.iload_n 1, 1) := by decide +kernel
theorem dX4_fillTables_63 : decode cX4_fillTables 63 = .ok (.aload_n 0, 1) := by decide +kernel
theorem dX4_fillTables_64 : decode cX4_fillTables 64 = .ok (.getfield 88, 3) := by decide +kernel
theorem dX4_fillTables_67 : decode cX4_fillTables 67 = .ok (.if_icmp .gt 76, 3) := by decide +kernel
theorem dX4_fillTables_70 : decode cX4_fillTables 70 = .ok (.iload_n 1, 1) := by decide +kernel
theorem dX4_fillTables_71 : decode cX4_fillTables 71 = .ok (.aload_n 0, 1) := by decide +kernel
theorem dX4_fillTables_72 : decode cX4_fillTables 72 = .ok (.getfield 88, 3) := by decide +kernel
theorem dX4_fillTables_75 : decode cX4_fillTables 75 = .ok (.iconst (-1), 1) := by decide +kernel
theorem dX4_fillTables_76 : decode cX4_fillTables 76 = .ok (.ixor, 1) := by decide +kernel
theorem dX4_fillTables_77 : decode cX4_fillTables 77 = .ok (.iand, 1) := by decide +kernel
theorem dX4_fillTables_78 : decode cX4_fillTables 78 = .ok (.ifCond .ne 59, 3) := by decide +kernel
theorem dX4_fillTables_81 : decode cX4_fillTables 81 = .ok (.iload_n 1, 1) := by decide +kernel
theorem dX4_fillTables_82 : decode cX4_fillTables 82 = .ok (.invokestatic 106, 3) := by decide +kernel
theorem dX4_fillTables_85 : decode cX4_fillTables 85 = .ok (.istore_n 2, 1) := by decide +kernel
theorem dX4_fillTables_86 : decode cX4_fillTables 86 = .ok (.iload_n 1, 1) := by decide +kernel
theorem dX4_fillTables_87 : decode cX4_fillTables 87 = .ok (.iload_n 1, 1) := by decide +kernel
theorem dX4_fillTables_88 : decode cX4_fillTables 88 = .ok (.iconst 1, 1) := by decide +kernel
theorem dX4_fillTables_89 : decode cX4_fillTables 89 = .ok (.isub, 1) := by decide +kernel
theorem dX4_fillTables_90 : decode cX4_fillTables 90 = .ok (.iand, 1) := by decide +kernel
theorem dX4_fillTables_91 : decode cX4_fillTables 91 = .ok (.istore_n 3, 1) := by decide +kernel
theorem dX4_fillTables_92 : decode cX4_fillTables 92 = .ok (.aload_n 0, 1) := by decide +kernel
theorem dX4_fillTables_93 : decode cX4_fillTables 93 = .ok (.getfield 18, 3) := by decide +kernel
theorem dX4_fillTables_96 : decode cX4_fillTables 96 = .ok (.iload_n 1, 1) := by decide +kernel
theorem dX4_fillTables_97 : decode cX4_fillTables 97 = .ok (.aload_n 0, 1) := by decide +kernel
theorem dX4_fillTables_98 : decode cX4_fillTables 98 = .ok (.getfield 18, 3) := by decide +kernel
theorem dX4_fillTables_101 : decode cX4_fillTables 101 = .ok (.iload_n 3, 1) := by decide +kernel
theorem dX4_fillTables_102 : decode cX4_fillTables 102 = .ok (.laload, 1) := by decide +kernel
theorem dX4_fillTables_103 : decode cX4_fillTables 103 = .ok (.aload_n 0, 1) := by decide +kernel
theorem dX4_fillTables_104 : decode cX4_fillTables 104 = .ok (.getfield 15, 3) := by decide +kernel
theorem dX4_fillTables_107 : decode cX4_fillTables 107 = .ok (.iload_n 2, 1) := by decide +kernel
theorem dX4_fillTables_108 : decode cX4_fillTables 108 = .ok (.laload, 1) := by decide +kernel
theorem dX4_fillTables_109 : decode cX4_fillTables 109 = .ok (.ladd, 1) := by decide +kernel
theorem dX4_fillTables_110 : decode cX4_fillTables 110 = .ok (.aload_n 0, 1) := by decide +kernel
theorem dX4_fillTables_111 : decode cX4_fillTables 111 = .ok (.getfield 9, 3) := by decide +kernel
theorem dX4_fillTables_114 : decode cX4_fillTables 114 = .ok (.iload_n 2, 1) := by decide +kernel
theorem dX4_fillTables_115 : decode cX4_fillTables 115 = .ok (.laload, 1) := by decide +kernel
theorem dX4_fillTables_116 : decode cX4_fillTables 116 = .ok (.lsub, 1) := by decide +kernel
theorem dX4_fillTables_117 : decode cX4_fillTables 117 = .ok (.lastore, 1) := by decide +kernel
theorem dX4_fillTables_118 : decode cX4_fillTables 118 = .ok (.aload_n 0, 1) := by decide +kernel
theorem dX4_fillTables_119 : decode cX4_fillTables 119 = .ok (.getfield 21, 3) := by decide +kernel
theorem dX4_fillTables_122 : decode cX4_fillTables 122 = .ok (.iload_n 1, 1) := by decide +kernel
theorem dX4_fillTables_123 : decode cX4_fillTables 123 = .ok (.aload_n 0, 1) := by decide +kernel
theorem dX4_fillTables_124 : decode cX4_fillTables 124 = .ok (.getfield 21, 3) := by decide +kernel
theorem dX4_fillTables_127 : decode cX4_fillTables 127 = .ok (.iload_n 3, 1) := by decide +kernel
theorem dX4_fillTables_128 : decode cX4_fillTables 128 = .ok (.laload, 1) := by decide +kernel
theorem dX4_fillTables_129 : decode cX4_fillTables 129 = .ok (.aload_n 0, 1) := by decide +kernel
theorem dX4_fillTables_130 : decode cX4_fillTables 130 = .ok (.getfield 15, 3) := by decide +kernel
theorem dX4_fillTables_133 : decode cX4_fillTables 133 = .ok (.iload_n 2, 1) := by decide +kernel
theorem dX4_fillTables_134 : decode cX4_fillTables 134 = .ok (.laload, 1) := by decide +kernel
theorem dX4_fillTables_135 : decode cX4_fillTables 135 = .ok (.ladd, 1) := by decide +kernel
theorem dX4_fillTables_136 : decode cX4_fillTables 136 = .ok (.lastore, 1) := by decide +kernel
theorem dX4_fillTables_137 : decode cX4_fillTables 137 = .ok (.iinc 1 1, 3) := by decide +kernel
theorem dX4_fillTables_140 : decode cX4_fillTables 140 = .ok (.goto (-78), 3) := by decide +kernel
theorem dX4_fillTables_143 : decode cX4_fillTables 143 = .ok (.return_, 1) := by decide +kernel
theorem dX4_extend_0 : decode cX4_extend 0 = .ok (.iload_n 1, 1) := by decide +kernel
theorem dX4_extend_1 : decode cX4_extend 1 = .ok (.aload_n 0, 1) := by decide +kernel
theorem dX4_extend_2 : decode cX4_extend 2 = .ok (.getfield 79, 3) := by decide +kernel
theorem dX4_extend_5 : decode cX4_extend 5 = .ok (.if_icmp .lt 4, 3) := by decide +kernel
theorem dX4_extend_8 : decode cX4_extend 8 = .ok (.return_, 1) := by decide +kernel
theorem dX4_extend_9 : decode cX4_extend 9 = .ok (.iconst 0, 1) := by decide +kernel
theorem dX4_extend_10 : decode cX4_extend 10 = .ok (.istore 5, 2) := by decide +kernel
theorem dX4_extend_12 : decode cX4_extend 12 = .ok (.iload 5, 2) := by decide +kernel
theorem dX4_extend_14 : decode cX4_extend 14 = .ok (.aload_n 0, 1) := by decide +kernel
theorem dX4_extend_15 : decode cX4_extend 15 = .ok (.getfield 79, 3) := by decide +kernel
theorem dX4_extend_18 : decode cX4_extend 18 = .ok (.if_icmp .ge 113, 3) := by decide +kernel
theorem dX4_extend_21 : decode cX4_extend 21 = .ok (.iconst 1, 1) := by decide +kernel
theorem dX4_extend_22 : decode cX4_extend 22 = .ok (.iload 5, 2) := by decide +kernel
theorem dX4_extend_24 : decode cX4_extend 24 = .ok (.ishl, 1) := by decide +kernel
theorem dX4_extend_25 : decode cX4_extend 25 = .ok (.istore 6, 2) := by decide +kernel
theorem dX4_extend_27 : decode cX4_extend 27 = .ok (.aload_n 0, 1) := by decide +kernel
theorem dX4_extend_28 : decode cX4_extend 28 = .ok (.getfield 88, 3) := by decide +kernel
theorem dX4_extend_31 : decode cX4_extend 31 = .ok (.iload_n 2, 1) := by decide +kernel
theorem dX4_extend_32 : decode cX4_extend 32 = .ok (.iconst (-1), 1) := by decide +kernel
theorem dX4_extend_33 : decode cX4_extend 33 = .ok (.ixor, 1) := by decide +kernel
theorem dX4_extend_34 : decode cX4_extend 34 = .ok (.iand, 1) := by decide +kernel
theorem dX4_extend_35 : decode cX4_extend 35 = .ok (.iload 6, 2) := by decide +kernel
theorem dX4_extend_37 : decode cX4_extend 37 = .ok (.iand, 1) := by decide +kernel
theorem dX4_extend_38 : decode cX4_extend 38 = .ok (.ifCond .ne 6, 3) := by decide +kernel
theorem dX4_extend_41 : decode cX4_extend 41 = .ok (.goto 84, 3) := by decide +kernel
theorem dX4_extend_44 : decode cX4_extend 44 = .ok (.iload_n 2, 1) := by decide +kernel
theorem dX4_extend_45 : decode cX4_extend 45 = .ok (.iload 6, 2) := by decide +kernel
theorem dX4_extend_47 : decode cX4_extend 47 = .ok (.ior, 1) := by decide +kernel
theorem dX4_extend_48 : decode cX4_extend 48 = .ok (.istore 7, 2) := by decide +kernel
theorem dX4_extend_50 : decode cX4_extend 50 = .ok (.lload_n 3, 1) := by decide +kernel
theorem dX4_extend_51 : decode cX4_extend 51 = .ok (.aload_n 0, 1) := by decide +kernel
theorem dX4_extend_52 : decode cX4_extend 52 = .ok (.getfield 18, 3) := by decide +kernel
theorem dX4_extend_55 : decode cX4_extend 55 = .ok (.iload 7, 2) := by decide +kernel
theorem dX4_extend_57 : decode cX4_extend 57 = .ok (.laload, 1) := by decide +kernel
theorem dX4_extend_58 : decode cX4_extend 58 = .ok (.invokestatic 94, 3) := by decide +kernel
theorem dX4_extend_61 : decode cX4_extend 61 = .ok (.lstore 8, 2) := by decide +kernel
theorem dX4_extend_63 : decode cX4_extend 63 = .ok (.aload_n 0, 1) := by decide +kernel
theorem dX4_extend_64 : decode cX4_extend 64 = .ok (.lload 8, 2) := by decide +kernel
theorem dX4_extend_66 : decode cX4_extend 66 = .ok (.aload_n 0, 1) := by decide +kernel
theorem dX4_extend_67 : decode cX4_extend 67 = .ok (.getfield 21, 3) := by decide +kernel
theorem dX4_extend_70 : decode cX4_extend 70 = .ok (.iload 7, 2) := by decide +kernel
theorem dX4_extend_72 : decode cX4_extend 72 = .ok (.laload, 1) := by decide +kernel
theorem dX4_extend_73 : decode cX4_extend 73 = .ok (.invokestatic 94, 3) := by decide +kernel
theorem dX4_extend_76 : decode cX4_extend 76 = .ok (.invokestatic 98, 3) := by decide +kernel
theorem dX4_extend_79 : decode cX4_extend 79 = .ok (.invokevirtual 112, 3) := by decide +kernel
theorem dX4_extend_82 : decode cX4_extend 82 = .ok (.ifCond .ne 43, 3) := by decide +kernel
theorem dX4_extend_85 : decode cX4_extend 85 = .ok (.aload_n 0, 1) := by decide +kernel
theorem dX4_extend_86 : decode cX4_extend 86 = .ok (.getfield 24, 3) := by decide +kernel
theorem dX4_extend_89 : decode cX4_extend 89 = .ok (.iload_n 1, 1) := by decide +kernel
theorem dX4_extend_90 : decode cX4_extend 90 = .ok (.iload 5, 2) := by decide +kernel
theorem dX4_extend_92 : decode cX4_extend 92 = .ok (.iastore, 1) := by decide +kernel
theorem dX4_extend_93 : decode cX4_extend 93 = .ok (.iload 7, 2) := by decide +kernel
theorem dX4_extend_95 : decode cX4_extend 95 = .ok (.aload_n 0, 1) := by decide +kernel
theorem dX4_extend_96 : decode cX4_extend 96 = .ok (.getfield 88, 3) := by decide +kernel
theorem dX4_extend_99 : decode cX4_extend 99 = .ok (.if_icmp .ne 15, 3) := by decide +kernel
theorem dX4_extend_102 : decode cX4_extend 102 = .ok (.aload_n 0, 1) := by decide +kernel
theorem dX4_extend_103 : decode cX4_extend 103 = .ok (.lload 8, 2) := by decide +kernel
theorem dX4_extend_105 : decode cX4_extend 105 = .ok (.invokestatic 98, 3) := by decide +kernel
theorem dX4_extend_108 : decode cX4_extend 108 = .ok (.invokevirtual 116, 3) := by decide +kernel
theorem dX4_extend_111 : decode cX4_extend 111 = .ok (.goto 14, 3) := by decide +kernel
theorem dX4_extend_114 : decode cX4_extend 114 = .ok (.aload_n 0, 1) := by decide +kernel
theorem dX4_extend_115 : decode cX4_extend 115 = .ok (.iload_n 1, 1) := by decide +kernel
theorem dX4_extend_116 : decode cX4_extend 116 = .ok (.iconst 1, 1) := by decide +kernel
theorem dX4_extend_117 : decode cX4_extend 117 = .ok (.iadd, 1) := by decide +kernel
theorem dX4_extend_118 : decode cX4_extend 118 = .ok (.iload 7, 2) := by decide +kernel
theorem dX4_extend_120 : decode cX4_extend 120 = .ok (.lload 8, 2) := by decide +kernel
theorem dX4_extend_122 : decode cX4_extend 122 = .ok (.invokevirtual 102, 3) := by decide +kernel
theorem dX4_extend_125 : decode cX4_extend 125 = .ok (.iinc 5 1, 3) := by decide +kernel
theorem dX4_extend_128 : decode cX4_extend 128 = .ok (.goto (-116), 3) := by decide +kernel
theorem dX4_extend_131 : decode cX4_extend 131 = .ok (.return_, 1) := by decide +kernel
theorem dX4_isHopeless_0 : decode cX4_isHopeless 0 = .ok (.aload_n 0, 1) := by decide +kernel
theorem dX4_isHopeless_1 : decode cX4_isHopeless 1 = .ok (.getfield 48, 3) := by decide +kernel
theorem dX4_isHopeless_4 : decode cX4_isHopeless 4 = .ok (.ifCond .eq 19, 3) := by decide +kernel
theorem dX4_isHopeless_7 : decode cX4_isHopeless 7 = .ok (.iload_n 1, 1) := by decide +kernel
theorem dX4_isHopeless_8 : decode cX4_isHopeless 8 = .ok (.aload_n 0, 1) := by decide +kernel
theorem dX4_isHopeless_9 : decode cX4_isHopeless 9 = .ok (.getfield 59, 3) := by decide +kernel
theorem dX4_isHopeless_12 : decode cX4_isHopeless 12 = .ok (.if_icmp .le 7, 3) := by decide +kernel
theorem dX4_isHopeless_15 : decode cX4_isHopeless 15 = .ok (.iconst 1, 1) := by decide +kernel
theorem dX4_isHopeless_16 : decode cX4_isHopeless 16 = .ok (.goto 20, 3) := by decide +kernel
theorem dX4_isHopeless_19 : decode cX4_isHopeless 19 = .ok (.iconst 0, 1) := by decide +kernel
theorem dX4_isHopeless_20 : decode cX4_isHopeless 20 = .ok (.goto 16, 3) := by decide +kernel
theorem dX4_isHopeless_23 : decode cX4_isHopeless 23 = .ok (.iload_n 1, 1) := by decide +kernel
theorem dX4_isHopeless_24 : decode cX4_isHopeless 24 = .ok (.aload_n 0, 1) := by decide +kernel
theorem dX4_isHopeless_25 : decode cX4_isHopeless 25 = .ok (.getfield 59, 3) := by decide +kernel
theorem dX4_isHopeless_28 : decode cX4_isHopeless 28 = .ok (.if_icmp .lt 7, 3) := by decide +kernel
theorem dX4_isHopeless_31 : decode cX4_isHopeless 31 = .ok (.iconst 1, 1) := by decide +kernel
theorem dX4_isHopeless_32 : decode cX4_isHopeless 32 = .ok (.goto 4, 3) := by decide +kernel
theorem dX4_isHopeless_35 : decode cX4_isHopeless 35 = .ok (.iconst 0, 1) := by decide +kernel
theorem dX4_isHopeless_36 : decode cX4_isHopeless 36 = .ok (.ireturn, 1) := by decide +kernel
theorem dX4_judge_0 : decode cX4_judge 0 = .ok (.iload_n 1, 1) := by decide +kernel
theorem dX4_judge_1 : decode cX4_judge 1 = .ok (.aload_n 0, 1) := by decide +kernel
theorem dX4_judge_2 : decode cX4_judge 2 = .ok (.getfield 59, 3) := by decide +kernel
theorem dX4_judge_5 : decode cX4_judge 5 = .ok (.if_icmp .lt 10, 3) := by decide +kernel
theorem dX4_judge_8 : decode cX4_judge 8 = .ok (.aload_n 0, 1) := by decide +kernel
theorem dX4_judge_9 : decode cX4_judge 9 = .ok (.getfield 65, 3) := by decide +kernel
theorem dX4_judge_12 : decode cX4_judge 12 = .ok (.ifCond .ne 48, 3) := by decide +kernel
theorem dX4_judge_15 : decode cX4_judge 15 = .ok (.aload_n 0, 1) := by decide +kernel
theorem dX4_judge_16 : decode cX4_judge 16 = .ok (.iload_n 1, 1) := by decide +kernel
theorem dX4_judge_17 : decode cX4_judge 17 = .ok (.putfield 59, 3) := by decide +kernel
theorem dX4_judge_20 : decode cX4_judge 20 = .ok (.aload_n 0, 1) := by decide +kernel
theorem dX4_judge_21 : decode cX4_judge 21 = .ok (.iconst 0, 1) := by decide +kernel
theorem dX4_judge_22 : decode cX4_judge 22 = .ok (.putfield 65, 3) := by decide +kernel
theorem dX4_judge_25 : decode cX4_judge 25 = .ok (.iconst 0, 1) := by decide +kernel
theorem dX4_judge_26 : decode cX4_judge 26 = .ok (.istore_n 2, 1) := by decide +kernel
theorem dX4_judge_27 : decode cX4_judge 27 = .ok (.iload_n 2, 1) := by decide +kernel
theorem dX4_judge_28 : decode cX4_judge 28 = .ok (.aload_n 0, 1) := by decide +kernel
theorem dX4_judge_29 : decode cX4_judge 29 = .ok (.getfield 79, 3) := by decide +kernel
theorem dX4_judge_32 : decode cX4_judge 32 = .ok (.if_icmp .ge 28, 3) := by decide +kernel
theorem dX4_judge_35 : decode cX4_judge 35 = .ok (.aload_n 0, 1) := by decide +kernel
theorem dX4_judge_36 : decode cX4_judge 36 = .ok (.getfield 48, 3) := by decide +kernel
theorem dX4_judge_39 : decode cX4_judge 39 = .ok (.ifCond .eq 21, 3) := by decide +kernel
theorem dX4_judge_42 : decode cX4_judge 42 = .ok (.aload_n 0, 1) := by decide +kernel
theorem dX4_judge_43 : decode cX4_judge 43 = .ok (.getfield 28, 3) := by decide +kernel
theorem dX4_judge_46 : decode cX4_judge 46 = .ok (.iload_n 2, 1) := by decide +kernel
theorem dX4_judge_47 : decode cX4_judge 47 = .ok (.aload_n 0, 1) := by decide +kernel
theorem dX4_judge_48 : decode cX4_judge 48 = .ok (.getfield 24, 3) := by decide +kernel
theorem dX4_judge_51 : decode cX4_judge 51 = .ok (.iload_n 2, 1) := by decide +kernel
theorem dX4_judge_52 : decode cX4_judge 52 = .ok (.iaload, 1) := by decide +kernel
theorem dX4_judge_53 : decode cX4_judge 53 = .ok (.iastore, 1) := by decide +kernel
theorem dX4_judge_54 : decode cX4_judge 54 = .ok (.iinc 2 1, 3) := by decide +kernel
theorem dX4_judge_57 : decode cX4_judge 57 = .ok (.goto (-30), 3) := by decide +kernel
theorem dX4_judge_60 : decode cX4_judge 60 = .ok (.aload_n 0, 1) := by decide +kernel
theorem dX4_judge_61 : decode cX4_judge 61 = .ok (.dup, 1) := by decide +kernel
theorem dX4_judge_62 : decode cX4_judge 62 = .ok (.getfield 65, 3) := by decide +kernel
theorem dX4_judge_65 : decode cX4_judge 65 = .ok (.iconst 1, 1) := by decide +kernel
theorem dX4_judge_66 : decode cX4_judge 66 = .ok (.iadd, 1) := by decide +kernel
theorem dX4_judge_67 : decode cX4_judge 67 = .ok (.putfield 65, 3) := by decide +kernel
theorem dX4_judge_70 : decode cX4_judge 70 = .ok (.return_, 1) := by decide +kernel
theorem dX4_lesser_0 : decode cX4_lesser 0 = .ok (.lload_n 0, 1) := by decide +kernel
theorem dX4_lesser_1 : decode cX4_lesser 1 = .ok (.ldc2_w 119, 3) := by decide +kernel
theorem dX4_lesser_4 : decode cX4_lesser 4 = .ok (.lor, 1) := by decide +kernel
theorem dX4_lesser_5 : decode cX4_lesser 5 = .ok (.lload_n 2, 1) := by decide +kernel
theorem dX4_lesser_6 : decode cX4_lesser 6 = .ok (.lsub, 1) := by decide +kernel
theorem dX4_lesser_7 : decode cX4_lesser 7 = .ok (.ldc2_w 119, 3) := by decide +kernel
theorem dX4_lesser_10 : decode cX4_lesser 10 = .ok (.land, 1) := by decide +kernel
theorem dX4_lesser_11 : decode cX4_lesser 11 = .ok (.lstore 4, 2) := by decide +kernel
theorem dX4_lesser_13 : decode cX4_lesser 13 = .ok (.lload 4, 2) := by decide +kernel
theorem dX4_lesser_15 : decode cX4_lesser 15 = .ok (.lload 4, 2) := by decide +kernel
theorem dX4_lesser_17 : decode cX4_lesser 17 = .ok (.iconst 3, 1) := by decide +kernel
theorem dX4_lesser_18 : decode cX4_lesser 18 = .ok (.lushr, 1) := by decide +kernel
theorem dX4_lesser_19 : decode cX4_lesser 19 = .ok (.lsub, 1) := by decide +kernel
theorem dX4_lesser_20 : decode cX4_lesser 20 = .ok (.lstore 6, 2) := by decide +kernel
theorem dX4_lesser_22 : decode cX4_lesser 22 = .ok (.lload_n 2, 1) := by decide +kernel
theorem dX4_lesser_23 : decode cX4_lesser 23 = .ok (.lload 6, 2) := by decide +kernel
theorem dX4_lesser_25 : decode cX4_lesser 25 = .ok (.land, 1) := by decide +kernel
theorem dX4_lesser_26 : decode cX4_lesser 26 = .ok (.lload_n 0, 1) := by decide +kernel
theorem dX4_lesser_27 : decode cX4_lesser 27 = .ok (.lload 6, 2) := by decide +kernel
theorem dX4_lesser_29 : decode cX4_lesser 29 = .ok (.ldc2_w 121, 3) := by decide +kernel
theorem dX4_lesser_32 : decode cX4_lesser 32 = .ok (.lxor, 1) := by decide +kernel
theorem dX4_lesser_33 : decode cX4_lesser 33 = .ok (.land, 1) := by decide +kernel
theorem dX4_lesser_34 : decode cX4_lesser 34 = .ok (.lor, 1) := by decide +kernel
theorem dX4_lesser_35 : decode cX4_lesser 35 = .ok (.lreturn, 1) := by decide +kernel
theorem dX4_total_0 : decode cX4_total 0 = .ok (.lload_n 0, 1) := by decide +kernel
theorem dX4_total_1 : decode cX4_total 1 = .ok (.ldc2_w 123, 3) := by decide +kernel
theorem dX4_total_4 : decode cX4_total 4 = .ok (.land, 1) := by decide +kernel
theorem dX4_total_5 : decode cX4_total 5 = .ok (.lload_n 0, 1) := by decide +kernel
theorem dX4_total_6 : decode cX4_total 6 = .ok (.iconst 4, 1) := by decide +kernel
theorem dX4_total_7 : decode cX4_total 7 = .ok (.lushr, 1) := by decide +kernel
theorem dX4_total_8 : decode cX4_total 8 = .ok (.ldc2_w 123, 3) := by decide +kernel
theorem dX4_total_11 : decode cX4_total 11 = .ok (.land, 1) := by decide +kernel
theorem dX4_total_12 : decode cX4_total 12 = .ok (.ladd, 1) := by decide +kernel
theorem dX4_total_13 : decode cX4_total 13 = .ok (.lstore_n 2, 1) := by decide +kernel
theorem dX4_total_14 : decode cX4_total 14 = .ok (.lload_n 2, 1) := by decide +kernel
theorem dX4_total_15 : decode cX4_total 15 = .ok (.ldc2_w 125, 3) := by decide +kernel
theorem dX4_total_18 : decode cX4_total 18 = .ok (.lmul, 1) := by decide +kernel
theorem dX4_total_19 : decode cX4_total 19 = .ok (.bipush 56, 2) := by decide +kernel
theorem dX4_total_21 : decode cX4_total 21 = .ok (.lushr, 1) := by decide +kernel
theorem dX4_total_22 : decode cX4_total 22 = .ok (.l2i, 1) := by decide +kernel
theorem dX4_total_23 : decode cX4_total 23 = .ok (.ireturn, 1) := by decide +kernel
theorem dX5_init_0 : decode cX5_init 0 = .ok (.aload_n 0, 1) := by decide +kernel
theorem dX5_init_1 : decode cX5_init 1 = .ok (.invokespecial 3, 3) := by decide +kernel
theorem dX5_init_4 : decode cX5_init 4 = .ok (.aload_n 0, 1) := by decide +kernel
theorem dX5_init_5 : decode cX5_init 5 = .ok (.bipush 60, 2) := by decide +kernel
theorem dX5_init_7 : decode cX5_init 7 = .ok (.newarray .int, 2) := by decide +kernel
theorem dX5_init_9 : decode cX5_init 9 = .ok (.putfield 9, 3) := by decide +kernel
theorem dX5_init_12 : decode cX5_init 12 = .ok (.aload_n 0, 1) := by decide +kernel
theorem dX5_init_13 : decode cX5_init 13 = .ok (.iconst 1, 1) := by decide +kernel
theorem dX5_init_14 : decode cX5_init 14 = .ok (.putfield 15, 3) := by decide +kernel
theorem dX5_init_17 : decode cX5_init 17 = .ok (.return_, 1) := by decide +kernel
theorem dX5_renew_0 : decode cX5_renew 0 = .ok (.aload_n 0, 1) := by decide +kernel
theorem dX5_renew_1 : decode cX5_renew 1 = .ok (.getfield 9, 3) := by decide +kernel
theorem dX5_renew_4 : decode cX5_renew 4 = .ok (.iconst 0, 1) := by decide +kernel
theorem dX5_renew_5 : decode cX5_renew 5 = .ok (.invokestatic 19, 3) := by decide +kernel
theorem dX5_renew_8 : decode cX5_renew 8 = .ok (.aload_n 0, 1) := by decide +kernel
theorem dX5_renew_9 : decode cX5_renew 9 = .ok (.iload_n 1, 1) := by decide +kernel
theorem dX5_renew_10 : decode cX5_renew 10 = .ok (.putfield 25, 3) := by decide +kernel
theorem dX5_renew_13 : decode cX5_renew 13 = .ok (.aload_n 0, 1) := by decide +kernel
theorem dX5_renew_14 : decode cX5_renew 14 = .ok (.iload_n 2, 1) := by decide +kernel
theorem dX5_renew_15 : decode cX5_renew 15 = .ok (.putfield 29, 3) := by decide +kernel
theorem dX5_renew_18 : decode cX5_renew 18 = .ok (.aload_n 0, 1) := by decide +kernel
theorem dX5_renew_19 : decode cX5_renew 19 = .ok (.iconst 0, 1) := by decide +kernel
theorem dX5_renew_20 : decode cX5_renew 20 = .ok (.putfield 15, 3) := by decide +kernel
theorem dX5_renew_23 : decode cX5_renew 23 = .ok (.return_, 1) := by decide +kernel
theorem dX5_findingAt_0 : decode cX5_findingAt 0 = .ok (.aload_n 0, 1) := by decide +kernel
theorem dX5_findingAt_1 : decode cX5_findingAt 1 = .ok (.getfield 15, 3) := by decide +kernel
theorem dX5_findingAt_4 : decode cX5_findingAt 4 = .ok (.ifCond .eq 5, 3) := by decide +kernel
theorem dX5_findingAt_7 : decode cX5_findingAt 7 = .ok (.iconst 1, 1) := by decide +kernel
theorem dX5_findingAt_8 : decode cX5_findingAt 8 = .ok (.ireturn, 1) := by decide +kernel
theorem dX5_findingAt_9 : decode cX5_findingAt 9 = .ok (.iload_n 1, 1) := by decide +kernel
theorem dX5_findingAt_10 : decode cX5_findingAt 10 = .ok (.aload_n 0, 1) := by decide +kernel
theorem dX5_findingAt_11 : decode cX5_findingAt 11 = .ok (.getfield 25, 3) := by decide +kernel
theorem dX5_findingAt_14 : decode cX5_findingAt 14 = .ok (.if_icmp .eq 5, 3) := by decide +kernel
theorem dX5_findingAt_17 : decode cX5_findingAt 17 = .ok (.iconst 3, 1) := by decide +kernel
theorem dX5_findingAt_18 : decode cX5_findingAt 18 = .ok (.ireturn, 1) := by decide +kernel
theorem dX5_findingAt_19 : decode cX5_findingAt 19 = .ok (.iload_n 2, 1) := by decide +kernel
theorem dX5_findingAt_20 : decode cX5_findingAt 20 = .ok (.aload_n 0, 1) := by decide +kernel
theorem dX5_findingAt_21 : decode cX5_findingAt 21 = .ok (.getfield 29, 3) := by decide +kernel
theorem dX5_findingAt_24 : decode cX5_findingAt 24 = .ok (.invokestatic 32, 3) := by decide +kernel
theorem dX5_findingAt_27 : decode cX5_findingAt 27 = .ok (.ifCond .eq 7, 3) := by decide +kernel
theorem dX5_findingAt_30 : decode cX5_findingAt 30 = .ok (.iconst 0, 1) := by decide +kernel
theorem dX5_findingAt_31 : decode cX5_findingAt 31 = .ok (.goto 4, 3) := by decide +kernel
theorem dX5_findingAt_34 : decode cX5_findingAt 34 = .ok (.iconst 2, 1) := by decide +kernel
theorem dX5_findingAt_35 : decode cX5_findingAt 35 = .ok (.ireturn, 1) := by decide +kernel
theorem dX5_hasRange_0 : decode cX5_hasRange 0 = .ok (.iload_n 1, 1) := by decide +kernel
theorem dX5_hasRange_1 : decode cX5_hasRange 1 = .ok (.ifCond .lt 29, 3) := by decide +kernel
theorem dX5_hasRange_4 : decode cX5_hasRange 4 = .ok (.iload_n 2, 1) := by decide +kernel
theorem dX5_hasRange_5 : decode cX5_hasRange 5 = .ok (.ifCond .lt 25, 3) := by decide +kernel
theorem dX5_hasRange_8 : decode cX5_hasRange 8 = .ok (.iload_n 2, 1) := by decide +kernel
theorem dX5_hasRange_9 : decode cX5_hasRange 9 = .ok (.aload_n 0, 1) := by decide +kernel
theorem dX5_hasRange_10 : decode cX5_hasRange 10 = .ok (.getfield 29, 3) := by decide +kernel
theorem dX5_hasRange_13 : decode cX5_hasRange 13 = .ok (.if_icmp .gt 17, 3) := by decide +kernel
theorem dX5_hasRange_16 : decode cX5_hasRange 16 = .ok (.iload_n 1, 1) := by decide +kernel
theorem dX5_hasRange_17 : decode cX5_hasRange 17 = .ok (.aload_n 0, 1) := by decide +kernel
theorem dX5_hasRange_18 : decode cX5_hasRange 18 = .ok (.getfield 29, 3) := by decide +kernel
theorem dX5_hasRange_21 : decode cX5_hasRange 21 = .ok (.iload_n 2, 1) := by decide +kernel
theorem dX5_hasRange_22 : decode cX5_hasRange 22 = .ok (.isub, 1) := by decide +kernel
theorem dX5_hasRange_23 : decode cX5_hasRange 23 = .ok (.if_icmp .gt 7, 3) := by decide +kernel
theorem dX5_hasRange_26 : decode cX5_hasRange 26 = .ok (.iconst 1, 1) := by decide +kernel
theorem dX5_hasRange_27 : decode cX5_hasRange 27 = .ok (.goto 4, 3) := by decide +kernel
theorem dX5_hasRange_30 : decode cX5_hasRange 30 = .ok (.iconst 0, 1) := by decide +kernel
theorem dX5_hasRange_31 : decode cX5_hasRange 31 = .ok (.ireturn, 1) := by decide +kernel
theorem dX5_put_0 : decode cX5_put 0 = .ok (.iload_n 1, 1) := by decide +kernel
theorem dX5_put_1 : decode cX5_put 1 = .ok (.aload_n 0, 1) := by decide +kernel
theorem dX5_put_2 : decode cX5_put 2 = .ok (.getfield 29, 3) := by decide +kernel
theorem dX5_put_5 : decode cX5_put 5 = .ok (.invokestatic 32, 3) := by decide +kernel
theorem dX5_put_8 : decode cX5_put 8 = .ok (.ifCond .eq 35, 3) := by decide +kernel
theorem dX5_put_11 : decode cX5_put 11 = .ok (.aload_n 0, 1) := by decide +kernel
theorem dX5_put_12 : decode cX5_put 12 = .ok (.getfield 9, 3) := by decide +kernel
theorem dX5_put_15 : decode cX5_put 15 = .ok (.iload_n 1, 1) := by decide +kernel
theorem dX5_put_16 : decode cX5_put 16 = .ok (.aload_n 0, 1) := by decide +kernel
theorem dX5_put_17 : decode cX5_put 17 = .ok (.getfield 25, 3) := by decide +kernel
theorem dX5_put_20 : decode cX5_put 20 = .ok (.ifCond .ne 8, 3) := by decide +kernel
theorem dX5_put_23 : decode cX5_put 23 = .ok (.iload_n 2, 1) := by decide +kernel
theorem dX5_put_24 : decode cX5_put 24 = .ok (.i2b, 1) := by decide +kernel
theorem dX5_put_25 : decode cX5_put 25 = .ok (.goto 17, 3) := by decide +kernel
theorem dX5_put_28 : decode cX5_put 28 = .ok (.aload_n 0, 1) := by decide +kernel
theorem dX5_put_29 : decode cX5_put 29 = .ok (.getfield 25, 3) := by decide +kernel
theorem dX5_put_32 : decode cX5_put 32 = .ok (.iconst 1, 1) := by decide +kernel
theorem dX5_put_33 : decode cX5_put 33 = .ok (.if_icmp .ne 8, 3) := by decide +kernel
theorem dX5_put_36 : decode cX5_put 36 = .ok (.iload_n 2, 1) := by decide +kernel
theorem dX5_put_37 : decode cX5_put 37 = .ok (.i2s, 1) := by decide +kernel
theorem dX5_put_38 : decode cX5_put 38 = .ok (.goto 4, 3) := by decide +kernel
theorem dX5_put_41 : decode cX5_put 41 = .ok (.iload_n 2, 1) := by decide +kernel
theorem dX5_put_42 : decode cX5_put 42 = .ok (.iastore, 1) := by decide +kernel
theorem dX5_put_43 : decode cX5_put 43 = .ok (.return_, 1) := by decide +kernel
theorem dX6_init_0 : decode cX6_init 0 = .ok (.aload_n 0, 1) := by decide +kernel
theorem dX6_init_1 : decode cX6_init 1 = .ok (.invokespecial 3, 3) := by decide +kernel
theorem dX6_init_4 : decode cX6_init 4 = .ok (.aload_n 0, 1) := by decide +kernel
theorem dX6_init_5 : decode cX6_init 5 = .ok (.bipush 7, 2) := by decide +kernel
theorem dX6_init_7 : decode cX6_init 7 = .ok (.newarray .int, 2) := by decide +kernel
theorem dX6_init_9 : decode cX6_init 9 = .ok (.putfield 9, 3) := by decide +kernel
theorem dX6_init_12 : decode cX6_init 12 = .ok (.aload_n 0, 1) := by decide +kernel
theorem dX6_init_13 : decode cX6_init 13 = .ok (.sipush 128, 3) := by decide +kernel
theorem dX6_init_16 : decode cX6_init 16 = .ok (.newarray .boolean, 2) := by decide +kernel
theorem dX6_init_18 : decode cX6_init 18 = .ok (.putfield 15, 3) := by decide +kernel
theorem dX6_init_21 : decode cX6_init 21 = .ok (.aload_n 0, 1) := by decide +kernel
theorem dX6_init_22 : decode cX6_init 22 = .ok (.sipush 128, 3) := by decide +kernel
theorem dX6_init_25 : decode cX6_init 25 = .ok (.newarray .int, 2) := by decide +kernel
theorem dX6_init_27 : decode cX6_init 27 = .ok (.putfield 19, 3) := by decide +kernel
theorem dX6_init_30 : decode cX6_init 30 = .ok (.aload_n 0, 1) := by decide +kernel
theorem dX6_init_31 : decode cX6_init 31 = .ok (.sipush 128, 3) := by decide +kernel
theorem dX6_init_34 : decode cX6_init 34 = .ok (.newarray .int, 2) := by decide +kernel
theorem dX6_init_36 : decode cX6_init 36 = .ok (.putfield 22, 3) := by decide +kernel
theorem dX6_init_39 : decode cX6_init 39 = .ok (.return_, 1) := by decide +kernel
theorem dX6_begin_0 : decode cX6_begin 0 = .ok (.aload_n 0, 1) := by decide +kernel
theorem dX6_begin_1 : decode cX6_begin 1 = .ok (.iload_n 1, 1) := by decide +kernel
theorem dX6_begin_2 : decode cX6_begin 2 = .ok (.putfield 25, 3) := by decide +kernel
theorem dX6_begin_5 : decode cX6_begin 5 = .ok (.aload_n 0, 1) := by decide +kernel
theorem dX6_begin_6 : decode cX6_begin 6 = .ok (.iconst 1, 1) := by decide +kernel
theorem dX6_begin_7 : decode cX6_begin 7 = .ok (.aload_n 0, 1) := by decide +kernel
theorem dX6_begin_8 : decode cX6_begin 8 = .ok (.getfield 25, 3) := by decide +kernel
theorem dX6_begin_11 : decode cX6_begin 11 = .ok (.ishl, 1) := by decide +kernel
theorem dX6_begin_12 : decode cX6_begin 12 = .ok (.iconst 1, 1) := by decide +kernel
theorem dX6_begin_13 : decode cX6_begin 13 = .ok (.isub, 1) := by decide +kernel
theorem dX6_begin_14 : decode cX6_begin 14 = .ok (.putfield 29, 3) := by decide +kernel
theorem dX6_begin_17 : decode cX6_begin 17 = .ok (.return_, 1) := by decide +kernel
theorem dX6_gather_0 : decode cX6_gather 0 = .ok (.aload_n 0, 1) := by decide +kernel
theorem dX6_gather_1 : decode cX6_gather 1 = .ok (.iconst 0, 1) := by decide +kernel
theorem dX6_gather_2 : decode cX6_gather 2 = .ok (.putfield 32, 3) := by decide +kernel
theorem dX6_gather_5 : decode cX6_gather 5 = .ok (.iconst 0, 1) := by decide +kernel
theorem dX6_gather_6 : decode cX6_gather 6 = .ok (.istore_n 1, 1) := by decide +kernel
theorem dX6_gather_7 : decode cX6_gather 7 = .ok (.iload_n 1, 1) := by decide +kernel
theorem dX6_gather_8 : decode cX6_gather 8 = .ok (.aload_n 0, 1) := by decide +kernel
theorem dX6_gather_9 : decode cX6_gather 9 = .ok (.getfield 29, 3) := by decide +kernel
theorem dX6_gather_12 : decode cX6_gather 12 = .ok (.if_icmp .gt 49, 3) := by decide +kernel
theorem dX6_gather_15 : decode cX6_gather 15 = .ok (.aload_n 0, 1) := by decide +kernel
theorem dX6_gather_16 : decode cX6_gather 16 = .ok (.getfield 15, 3) := by decide +kernel
theorem dX6_gather_19 : decode cX6_gather 19 = .ok (.iload_n 1, 1) := by decide +kernel
theorem dX6_gather_20 : decode cX6_gather 20 = .ok (.aload_n 0, 1) := by decide +kernel
theorem dX6_gather_21 : decode cX6_gather 21 = .ok (.iload_n 1, 1) := by decide +kernel
theorem dX6_gather_22 : decode cX6_gather 22 = .ok (.invokevirtual 35, 3) := by decide +kernel
theorem dX6_gather_25 : decode cX6_gather 25 = .ok (.bastore, 1) := by decide +kernel
theorem dX6_gather_26 : decode cX6_gather 26 = .ok (.aload_n 0, 1) := by decide +kernel
theorem dX6_gather_27 : decode cX6_gather 27 = .ok (.getfield 15, 3) := by decide +kernel
theorem dX6_gather_30 : decode cX6_gather 30 = .ok (.iload_n 1, 1) := by decide +kernel
theorem dX6_gather_31 : decode cX6_gather 31 = .ok (.baload, 1) := by decide +kernel
theorem dX6_gather_32 : decode cX6_gather 32 = .ok (.ifCond .eq 23, 3) := by decide +kernel
theorem dX6_gather_35 : decode cX6_gather 35 = .ok (.aload_n 0, 1) := by decide +kernel
theorem dX6_gather_36 : decode cX6_gather 36 = .ok (.getfield 19, 3) := by decide +kernel
theorem dX6_gather_39 : decode cX6_gather 39 = .ok (.aload_n 0, 1) := by decide +kernel
theorem dX6_gather_40 : decode cX6_gather 40 = .ok (.getfield 32, 3) := by decide +kernel
theorem dX6_gather_43 : decode cX6_gather 43 = .ok (.iload_n 1, 1) := by decide +kernel
theorem dX6_gather_44 : decode cX6_gather 44 = .ok (.iastore, 1) := by decide +kernel
theorem dX6_gather_45 : decode cX6_gather 45 = .ok (.aload_n 0, 1) := by decide +kernel
theorem dX6_gather_46 : decode cX6_gather 46 = .ok (.dup, 1) := by decide +kernel
theorem dX6_gather_47 : decode cX6_gather 47 = .ok (.getfield 32, 3) := by decide +kernel
theorem dX6_gather_50 : decode cX6_gather 50 = .ok (.iconst 1, 1) := by decide +kernel
theorem dX6_gather_51 : decode cX6_gather 51 = .ok (.iadd, 1) := by decide +kernel
theorem dX6_gather_52 : decode cX6_gather 52 = .ok (.putfield 32, 3) := by decide +kernel
theorem dX6_gather_55 : decode cX6_gather 55 = .ok (.iinc 1 1, 3) := by decide +kernel
theorem dX6_gather_58 : decode cX6_gather 58 = .ok (.goto (-51), 3) := by decide +kernel
theorem dX6_gather_61 : decode cX6_gather 61 = .ok (.aload_n 0, 1) := by decide +kernel
theorem dX6_gather_62 : decode cX6_gather 62 = .ok (.iconst 1, 1) := by decide +kernel
theorem dX6_gather_63 : decode cX6_gather 63 = .ok (.putfield 39, 3) := by decide +kernel
theorem dX6_gather_66 : decode cX6_gather 66 = .ok (.return_, 1) := by decide +kernel
theorem dX6_holdsNeeds_0 : decode cX6_holdsNeeds 0 = .ok (.iconst 0, 1) := by decide +kernel
theorem dX6_holdsNeeds_1 : decode cX6_holdsNeeds 1 = .ok (.istore_n 2, 1) := by decide +kernel
theorem dX6_holdsNeeds_2 : decode cX6_holdsNeeds 2 = .ok (.iload_n 2, 1) := by decide +kernel
theorem dX6_holdsNeeds_3 : decode cX6_holdsNeeds 3 = .ok (.aload_n 0, 1) := by decide +kernel
theorem dX6_holdsNeeds_4 : decode cX6_holdsNeeds 4 = .ok (.getfield 25, 3) := by decide +kernel
theorem dX6_holdsNeeds_7 : decode cX6_holdsNeeds 7 = .ok (.if_icmp .ge 32, 3) := by decide +kernel
theorem dX6_holdsNeeds_10 : decode cX6_holdsNeeds 10 = .ok (.iload_n 1, 1) := by decide +kernel
theorem dX6_holdsNeeds_11 : decode cX6_holdsNeeds 11 = .ok (.iconst 1, 1) := by decide +kernel
theorem dX6_holdsNeeds_12 : decode cX6_holdsNeeds 12 = .ok (.iload_n 2, 1) := by decide +kernel
theorem dX6_holdsNeeds_13 : decode cX6_holdsNeeds 13 = .ok (.ishl, 1) := by decide +kernel
theorem dX6_holdsNeeds_14 : decode cX6_holdsNeeds 14 = .ok (.iand, 1) := by decide +kernel
theorem dX6_holdsNeeds_15 : decode cX6_holdsNeeds 15 = .ok (.ifCond .eq 18, 3) := by decide +kernel
theorem dX6_holdsNeeds_18 : decode cX6_holdsNeeds 18 = .ok (.aload_n 0, 1) := by decide +kernel
theorem dX6_holdsNeeds_19 : decode cX6_holdsNeeds 19 = .ok (.getfield 9, 3) := by decide +kernel
theorem dX6_holdsNeeds_22 : decode cX6_holdsNeeds 22 = .ok (.iload_n 2, 1) := by decide +kernel
theorem dX6_holdsNeeds_23 : decode cX6_holdsNeeds 23 = .ok (.iaload, 1) := by decide +kernel
theorem dX6_holdsNeeds_24 : decode cX6_holdsNeeds 24 = .ok (.iload_n 1, 1) := by decide +kernel
theorem dX6_holdsNeeds_25 : decode cX6_holdsNeeds 25 = .ok (.iconst (-1), 1) := by decide +kernel
theorem dX6_holdsNeeds_26 : decode cX6_holdsNeeds 26 = .ok (.ixor, 1) := by decide +kernel
theorem dX6_holdsNeeds_27 : decode cX6_holdsNeeds 27 = .ok (.iand, 1) := by decide +kernel
theorem dX6_holdsNeeds_28 : decode cX6_holdsNeeds 28 = .ok (.ifCond .eq 5, 3) := by decide +kernel
theorem dX6_holdsNeeds_31 : decode cX6_holdsNeeds 31 = .ok (.iconst 0, 1) := by decide +kernel
theorem dX6_holdsNeeds_32 : decode cX6_holdsNeeds 32 = .ok (.ireturn, 1) := by decide +kernel
theorem dX6_holdsNeeds_33 : decode cX6_holdsNeeds 33 = .ok (.iinc 2 1, 3) := by decide +kernel
theorem dX6_holdsNeeds_36 : decode cX6_holdsNeeds 36 = .ok (.goto (-34), 3) := by decide +kernel
theorem dX6_holdsNeeds_39 : decode cX6_holdsNeeds 39 = .ok (.iconst 1, 1) := by decide +kernel
theorem dX6_holdsNeeds_40 : decode cX6_holdsNeeds 40 = .ok (.ireturn, 1) := by decide +kernel
theorem dX6_neighbours_0 : decode cX6_neighbours 0 = .ok (.iconst 0, 1) := by decide +kernel
theorem dX6_neighbours_1 : decode cX6_neighbours 1 = .ok (.istore_n 2, 1) := by decide +kernel
theorem dX6_neighbours_2 : decode cX6_neighbours 2 = .ok (.iconst 0, 1) := by decide +kernel
theorem dX6_neighbours_3 : decode cX6_neighbours 3 = .ok (.istore_n 3, 1) := by decide +kernel
theorem dX6_neighbours_4 : decode cX6_neighbours 4 = .ok (.iload_n 3, 1) := by decide +kernel
theorem dX6_neighbours_5 : decode cX6_neighbours 5 = .ok (.aload_n 0, 1) := by decide +kernel
theorem dX6_neighbours_6 : decode cX6_neighbours 6 = .ok (.getfield 25, 3) := by decide +kernel
theorem dX6_neighbours_9 : decode cX6_neighbours 9 = .ok (.if_icmp .ge 32, 3) := by decide +kernel
theorem dX6_neighbours_12 : decode cX6_neighbours 12 = .ok (.iload_n 2, 1) := by decide +kernel
theorem dX6_neighbours_13 : decode cX6_neighbours 13 = .ok (.aload_n 0, 1) := by decide +kernel
theorem dX6_neighbours_14 : decode cX6_neighbours 14 = .ok (.getfield 15, 3) := by decide +kernel
theorem dX6_neighbours_17 : decode cX6_neighbours 17 = .ok (.iload_n 1, 1) := by decide +kernel
theorem dX6_neighbours_18 : decode cX6_neighbours 18 = .ok (.iconst 1, 1) := by decide +kernel
theorem dX6_neighbours_19 : decode cX6_neighbours 19 = .ok (.iload_n 3, 1) := by decide +kernel
theorem dX6_neighbours_20 : decode cX6_neighbours 20 = .ok (.ishl, 1) := by decide +kernel
theorem dX6_neighbours_21 : decode cX6_neighbours 21 = .ok (.ixor, 1) := by decide +kernel
theorem dX6_neighbours_22 : decode cX6_neighbours 22 = .ok (.baload, 1) := by decide +kernel
theorem dX6_neighbours_23 : decode cX6_neighbours 23 = .ok (.ifCond .eq 9, 3) := by decide +kernel
theorem dX6_neighbours_26 : decode cX6_neighbours 26 = .ok (.iconst 1, 1) := by decide +kernel
theorem dX6_neighbours_27 : decode cX6_neighbours 27 = .ok (.iload_n 3, 1) := by decide +kernel
theorem dX6_neighbours_28 : decode cX6_neighbours 28 = .ok (.ishl, 1) := by decide +kernel
theorem dX6_neighbours_29 : decode cX6_neighbours 29 = .ok (.goto 4, 3) := by decide +kernel
theorem dX6_neighbours_32 : decode cX6_neighbours 32 = .ok (.iconst 0, 1) := by decide +kernel
theorem dX6_neighbours_33 : decode cX6_neighbours 33 = .ok (.ior, 1) := by decide +kernel
theorem dX6_neighbours_34 : decode cX6_neighbours 34 = .ok (.istore_n 2, 1) := by decide +kernel
theorem dX6_neighbours_35 : decode cX6_neighbours 35 = .ok (.iinc 3 1, 3) := by decide +kernel
theorem dX6_neighbours_38 : decode cX6_neighbours 38 = .ok (.goto (-34), 3) := by decide +kernel
theorem dX6_neighbours_41 : decode cX6_neighbours 41 = .ok (.iload_n 2, 1) := by decide +kernel
theorem dX6_neighbours_42 : decode cX6_neighbours 42 = .ok (.ireturn, 1) := by decide +kernel
theorem dX6_waysToAll_0 : decode cX6_waysToAll 0 = .ok (.aload_n 0, 1) := by decide +kernel
theorem dX6_waysToAll_1 : decode cX6_waysToAll 1 = .ok (.getfield 22, 3) := by decide +kernel
theorem dX6_waysToAll_4 : decode cX6_waysToAll 4 = .ok (.iconst 0, 1) := by decide +kernel
theorem dX6_waysToAll_5 : decode cX6_waysToAll 5 = .ok (.iconst 1, 1) := by decide +kernel
theorem dX6_waysToAll_6 : decode cX6_waysToAll 6 = .ok (.iastore, 1) := by decide +kernel
theorem dX6_waysToAll_7 : decode cX6_waysToAll 7 = .ok (.iconst 1, 1) := by decide +kernel
theorem dX6_waysToAll_8 : decode cX6_waysToAll 8 = .ok (.istore_n 1, 1) := by decide +kernel
theorem dX6_waysToAll_9 : decode cX6_waysToAll 9 = .ok (.iload_n 1, 1) := by decide +kernel
theorem dX6_waysToAll_10 : decode cX6_waysToAll 10 = .ok (.aload_n 0, 1) := by decide +kernel
theorem dX6_waysToAll_11 : decode cX6_waysToAll 11 = .ok (.getfield 32, 3) := by decide +kernel
theorem dX6_waysToAll_14 : decode cX6_waysToAll 14 = .ok (.if_icmp .ge 78, 3) := by decide +kernel
theorem dX6_waysToAll_17 : decode cX6_waysToAll 17 = .ok (.aload_n 0, 1) := by decide +kernel
theorem dX6_waysToAll_18 : decode cX6_waysToAll 18 = .ok (.getfield 19, 3) := by decide +kernel
theorem dX6_waysToAll_21 : decode cX6_waysToAll 21 = .ok (.iload_n 1, 1) := by decide +kernel
theorem dX6_waysToAll_22 : decode cX6_waysToAll 22 = .ok (.iaload, 1) := by decide +kernel
theorem dX6_waysToAll_23 : decode cX6_waysToAll 23 = .ok (.istore_n 2, 1) := by decide +kernel
theorem dX6_waysToAll_24 : decode cX6_waysToAll 24 = .ok (.aload_n 0, 1) := by decide +kernel
theorem dX6_waysToAll_25 : decode cX6_waysToAll 25 = .ok (.iload_n 2, 1) := by decide +kernel
theorem dX6_waysToAll_26 : decode cX6_waysToAll 26 = .ok (.invokevirtual 43, 3) := by decide +kernel
theorem dX6_waysToAll_29 : decode cX6_waysToAll 29 = .ok (.iload_n 2, 1) := by decide +kernel
theorem dX6_waysToAll_30 : decode cX6_waysToAll 30 = .ok (.iand, 1) := by decide +kernel
theorem dX6_waysToAll_31 : decode cX6_waysToAll 31 = .ok (.istore_n 3, 1) := by decide +kernel
theorem dX6_waysToAll_32 : decode cX6_waysToAll 32 = .ok (.aload_n 0, 1) := by decide +kernel
theorem dX6_waysToAll_33 : decode cX6_waysToAll 33 = .ok (.getfield 22, 3) := by decide +kernel
theorem dX6_waysToAll_36 : decode cX6_waysToAll 36 = .ok (.iload_n 2, 1) := by decide +kernel
theorem dX6_waysToAll_37 : decode cX6_waysToAll 37 = .ok (.iconst 0, 1) := by decide +kernel
theorem dX6_waysToAll_38 : decode cX6_waysToAll 38 = .ok (.iastore, 1) := by decide +kernel
theorem dX6_waysToAll_39 : decode cX6_waysToAll 39 = .ok (.iconst 0, 1) := by decide +kernel
theorem dX6_waysToAll_40 : decode cX6_waysToAll 40 = .ok (.istore 4, 2) := by decide +kernel
theorem dX6_waysToAll_42 : decode cX6_waysToAll 42 = .ok (.iload 4, 2) := by decide +kernel
theorem dX6_waysToAll_44 : decode cX6_waysToAll 44 = .ok (.aload_n 0, 1) := by decide +kernel
theorem dX6_waysToAll_45 : decode cX6_waysToAll 45 = .ok (.getfield 25, 3) := by decide +kernel
theorem dX6_waysToAll_48 : decode cX6_waysToAll 48 = .ok (.if_icmp .ge 38, 3) := by decide +kernel
theorem dX6_waysToAll_51 : decode cX6_waysToAll 51 = .ok (.iload_n 3, 1) := by decide +kernel
theorem dX6_waysToAll_52 : decode cX6_waysToAll 52 = .ok (.iconst 1, 1) := by decide +kernel
theorem dX6_waysToAll_53 : decode cX6_waysToAll 53 = .ok (.iload 4, 2) := by decide +kernel
theorem dX6_waysToAll_55 : decode cX6_waysToAll 55 = .ok (.ishl, 1) := by decide +kernel
theorem dX6_waysToAll_56 : decode cX6_waysToAll 56 = .ok (.iand, 1) := by decide +kernel
theorem dX6_waysToAll_57 : decode cX6_waysToAll 57 = .ok (.ifCond .eq 23, 3) := by decide +kernel
theorem dX6_waysToAll_60 : decode cX6_waysToAll 60 = .ok (.aload_n 0, 1) := by decide +kernel
theorem dX6_waysToAll_61 : decode cX6_waysToAll 61 = .ok (.getfield 22, 3) := by decide +kernel
theorem dX6_waysToAll_64 : decode cX6_waysToAll 64 = .ok (.iload_n 2, 1) := by decide +kernel
theorem dX6_waysToAll_65 : decode cX6_waysToAll 65 = .ok (.dup2, 1) := by decide +kernel
theorem dX6_waysToAll_66 : decode cX6_waysToAll 66 = .ok (.iaload, 1) := by decide +kernel
theorem dX6_waysToAll_67 : decode cX6_waysToAll 67 = .ok (.aload_n 0, 1) := by decide +kernel
theorem dX6_waysToAll_68 : decode cX6_waysToAll 68 = .ok (.getfield 22, 3) := by decide +kernel
theorem dX6_waysToAll_71 : decode cX6_waysToAll 71 = .ok (.iload_n 2, 1) := by decide +kernel
theorem dX6_waysToAll_72 : decode cX6_waysToAll 72 = .ok (.iconst 1, 1) := by decide +kernel
theorem dX6_waysToAll_73 : decode cX6_waysToAll 73 = .ok (.iload 4, 2) := by decide +kernel
theorem dX6_waysToAll_75 : decode cX6_waysToAll 75 = .ok (.ishl, 1) := by decide +kernel
theorem dX6_waysToAll_76 : decode cX6_waysToAll 76 = .ok (.ixor, 1) := by decide +kernel
theorem dX6_waysToAll_77 : decode cX6_waysToAll 77 = .ok (.iaload, 1) := by decide +kernel
theorem dX6_waysToAll_78 : decode cX6_waysToAll 78 = .ok (.iadd, 1) := by decide +kernel
theorem dX6_waysToAll_79 : decode cX6_waysToAll 79 = .ok (.iastore, 1) := by decide +kernel
theorem dX6_waysToAll_80 : decode cX6_waysToAll 80 = .ok (.iinc 4 1, 3) := by decide +kernel
theorem dX6_waysToAll_83 : decode cX6_waysToAll 83 = .ok (.goto (-41), 3) := by decide +kernel
theorem dX6_waysToAll_86 : decode cX6_waysToAll 86 = .ok (.iinc 1 1, 3) := by decide +kernel
theorem dX6_waysToAll_89 : decode cX6_waysToAll 89 = .ok (.goto (-80), 3) := by decide +kernel
theorem dX6_waysToAll_92 : decode cX6_waysToAll 92 = .ok (.aload_n 0, 1) := by decide +kernel
theorem dX6_waysToAll_93 : decode cX6_waysToAll 93 = .ok (.getfield 22, 3) := by decide +kernel
theorem dX6_waysToAll_96 : decode cX6_waysToAll 96 = .ok (.aload_n 0, 1) := by decide +kernel
theorem dX6_waysToAll_97 : decode cX6_waysToAll 97 = .ok (.getfield 29, 3) := by decide +kernel
theorem dX6_waysToAll_100 : decode cX6_waysToAll 100 = .ok (.iaload, 1) := by decide +kernel
theorem dX6_waysToAll_101 : decode cX6_waysToAll 101 = .ok (.ireturn, 1) := by decide +kernel
theorem dX7_init_0 : decode cX7_init 0 = .ok (.aload_n 0, 1) := by decide +kernel
theorem dX7_init_1 : decode cX7_init 1 = .ok (.invokespecial 3, 3) := by decide +kernel
theorem dX7_init_4 : decode cX7_init 4 = .ok (.aload_n 0, 1) := by decide +kernel
theorem dX7_init_5 : decode cX7_init 5 = .ok (.iconst 4, 1) := by decide +kernel
theorem dX7_init_6 : decode cX7_init 6 = .ok (.newarray .int, 2) := by decide +kernel
theorem dX7_init_8 : decode cX7_init 8 = .ok (.dup, 1) := by decide +kernel
theorem dX7_init_9 : decode cX7_init 9 = .ok (.iconst 0, 1) := by decide +kernel
theorem dX7_init_10 : decode cX7_init 10 = .ok (.iconst 5, 1) := by decide +kernel
theorem dX7_init_11 : decode cX7_init 11 = .ok (.iastore, 1) := by decide +kernel
theorem dX7_init_12 : decode cX7_init 12 = .ok (.dup, 1) := by decide +kernel
theorem dX7_init_13 : decode cX7_init 13 = .ok (.iconst 1, 1) := by decide +kernel
theorem dX7_init_14 : decode cX7_init 14 = .ok (.sipush 999, 3) := by decide +kernel
theorem dX7_init_17 : decode cX7_init 17 = .ok (.iastore, 1) := by decide +kernel
theorem dX7_init_18 : decode cX7_init 18 = .ok (.dup, 1) := by decide +kernel
theorem dX7_init_19 : decode cX7_init 19 = .ok (.iconst 2, 1) := by decide +kernel
theorem dX7_init_20 : decode cX7_init 20 = .ok (.iconst 0, 1) := by decide +kernel
theorem dX7_init_21 : decode cX7_init 21 = .ok (.iastore, 1) := by decide +kernel
theorem dX7_init_22 : decode cX7_init 22 = .ok (.dup, 1) := by decide +kernel
theorem dX7_init_23 : decode cX7_init 23 = .ok (.iconst 3, 1) := by decide +kernel
theorem dX7_init_24 : decode cX7_init 24 = .ok (.iconst 0, 1) := by decide +kernel
theorem dX7_init_25 : decode cX7_init 25 = .ok (.iastore, 1) := by decide +kernel
theorem dX7_init_26 : decode cX7_init 26 = .ok (.putfield 9, 3) := by decide +kernel
theorem dX7_init_29 : decode cX7_init 29 = .ok (.aload_n 0, 1) := by decide +kernel
theorem dX7_init_30 : decode cX7_init 30 = .ok (.new 13, 3) := by decide +kernel
theorem dX7_init_33 : decode cX7_init 33 = .ok (.dup, 1) := by decide +kernel
theorem dX7_init_34 : decode cX7_init 34 = .ok (.invokespecial 15, 3) := by decide +kernel
theorem dX7_init_37 : decode cX7_init 37 = .ok (.putfield 16, 3) := by decide +kernel
theorem dX7_init_40 : decode cX7_init 40 = .ok (.aload_n 0, 1) := by decide +kernel
theorem dX7_init_41 : decode cX7_init 41 = .ok (.new 20, 3) := by decide +kernel
theorem dX7_init_44 : decode cX7_init 44 = .ok (.dup, 1) := by decide +kernel
theorem dX7_init_45 : decode cX7_init 45 = .ok (.invokespecial 22, 3) := by decide +kernel
theorem dX7_init_48 : decode cX7_init 48 = .ok (.putfield 23, 3) := by decide +kernel
theorem dX7_init_51 : decode cX7_init 51 = .ok (.aload_n 0, 1) := by decide +kernel
theorem dX7_init_52 : decode cX7_init 52 = .ok (.new 27, 3) := by decide +kernel
theorem dX7_init_55 : decode cX7_init 55 = .ok (.dup, 1) := by decide +kernel
theorem dX7_init_56 : decode cX7_init 56 = .ok (.invokespecial 29, 3) := by decide +kernel
theorem dX7_init_59 : decode cX7_init 59 = .ok (.putfield 30, 3) := by decide +kernel
theorem dX7_init_62 : decode cX7_init 62 = .ok (.aload_n 0, 1) := by decide +kernel
theorem dX7_init_63 : decode cX7_init 63 = .ok (.new 34, 3) := by decide +kernel
theorem dX7_init_66 : decode cX7_init 66 = .ok (.dup, 1) := by decide +kernel
theorem dX7_init_67 : decode cX7_init 67 = .ok (.invokespecial 36, 3) := by decide +kernel
theorem dX7_init_70 : decode cX7_init 70 = .ok (.putfield 37, 3) := by decide +kernel
theorem dX7_init_73 : decode cX7_init 73 = .ok (.aload_n 0, 1) := by decide +kernel
theorem dX7_init_74 : decode cX7_init 74 = .ok (.new 41, 3) := by decide +kernel
theorem dX7_init_77 : decode cX7_init 77 = .ok (.dup, 1) := by decide +kernel
theorem dX7_init_78 : decode cX7_init 78 = .ok (.invokespecial 43, 3) := by decide +kernel
theorem dX7_init_81 : decode cX7_init 81 = .ok (.putfield 44, 3) := by decide +kernel
theorem dX7_init_84 : decode cX7_init 84 = .ok (.aload_n 0, 1) := by decide +kernel
theorem dX7_init_85 : decode cX7_init 85 = .ok (.new 48, 3) := by decide +kernel
theorem dX7_init_88 : decode cX7_init 88 = .ok (.dup, 1) := by decide +kernel
theorem dX7_init_89 : decode cX7_init 89 = .ok (.invokespecial 50, 3) := by decide +kernel
theorem dX7_init_92 : decode cX7_init 92 = .ok (.putfield 51, 3) := by decide +kernel
theorem dX7_init_95 : decode cX7_init 95 = .ok (.aload_n 0, 1) := by decide +kernel
theorem dX7_init_96 : decode cX7_init 96 = .ok (.iconst 4, 1) := by decide +kernel
theorem dX7_init_97 : decode cX7_init 97 = .ok (.anewarray 55, 3) := by decide +kernel
theorem dX7_init_100 : decode cX7_init 100 = .ok (.putfield 57, 3) := by decide +kernel
theorem dX7_init_103 : decode cX7_init 103 = .ok (.iconst 0, 1) := by decide +kernel
theorem dX7_init_104 : decode cX7_init 104 = .ok (.istore_n 1, 1) := by decide +kernel
theorem dX7_init_105 : decode cX7_init 105 = .ok (.iload_n 1, 1) := by decide +kernel
theorem dX7_init_106 : decode cX7_init 106 = .ok (.iconst 4, 1) := by decide +kernel
theorem dX7_init_107 : decode cX7_init 107 = .ok (.if_icmp .ge 22, 3) := by decide +kernel
theorem dX7_init_110 : decode cX7_init 110 = .ok (.aload_n 0, 1) := by decide +kernel
theorem dX7_init_111 : decode cX7_init 111 = .ok (.getfield 57, 3) := by decide +kernel
theorem dX7_init_114 : decode cX7_init 114 = .ok (.iload_n 1, 1) := by decide +kernel
theorem dX7_init_115 : decode cX7_init 115 = .ok (.new 55, 3) := by decide +kernel
theorem dX7_init_118 : decode cX7_init 118 = .ok (.dup, 1) := by decide +kernel
theorem dX7_init_119 : decode cX7_init 119 = .ok (.invokespecial 61, 3) := by decide +kernel
theorem dX7_init_122 : decode cX7_init 122 = .ok (.aastore, 1) := by decide +kernel
theorem dX7_init_123 : decode cX7_init 123 = .ok (.iinc 1 1, 3) := by decide +kernel
theorem dX7_init_126 : decode cX7_init 126 = .ok (.goto (-21), 3) := by decide +kernel
theorem dX7_init_129 : decode cX7_init 129 = .ok (.return_, 1) := by decide +kernel
end
section
theorem dX7_set_0 : decode cX7_set 0 = .ok (.iload_n 1, 1) := by decide +kernel
theorem dX7_set_1 : decode cX7_set 1 = .ok (.iconst 4, 1) := by decide +kernel
theorem dX7_set_2 : decode cX7_set 2 = .ok (.invokestatic 62, 3) := by decide +kernel
theorem dX7_set_5 : decode cX7_set 5 = .ok (.ifCond .eq 21, 3) := by decide +kernel
theorem dX7_set_8 : decode cX7_set 8 = .ok (.iload_n 2, 1) := by decide +kernel
theorem dX7_set_9 : decode cX7_set 9 = .ok (.getstatic 66, 3) := by decide +kernel
theorem dX7_set_12 : decode cX7_set 12 = .ok (.iload_n 1, 1) := by decide +kernel
theorem dX7_set_13 : decode cX7_set 13 = .ok (.iaload, 1) := by decide +kernel
theorem dX7_set_14 : decode cX7_set 14 = .ok (.if_icmp .lt 12, 3) := by decide +kernel
theorem dX7_set_17 : decode cX7_set 17 = .ok (.iload_n 2, 1) := by decide +kernel
theorem dX7_set_18 : decode cX7_set 18 = .ok (.getstatic 69, 3) := by decide +kernel
theorem dX7_set_21 : decode cX7_set 21 = .ok (.iload_n 1, 1) := by decide +kernel
theorem dX7_set_22 : decode cX7_set 22 = .ok (.iaload, 1) := by decide +kernel
theorem dX7_set_23 : decode cX7_set 23 = .ok (.if_icmp .le 6, 3) := by decide +kernel
theorem dX7_set_26 : decode cX7_set 26 = .ok (.bipush (-2), 2) := by decide +kernel
theorem dX7_set_28 : decode cX7_set 28 = .ok (.ireturn, 1) := by decide +kernel
theorem dX7_set_29 : decode cX7_set 29 = .ok (.aload_n 0, 1) := by decide +kernel
theorem dX7_set_30 : decode cX7_set 30 = .ok (.getfield 9, 3) := by decide +kernel
theorem dX7_set_33 : decode cX7_set 33 = .ok (.iload_n 1, 1) := by decide +kernel
theorem dX7_set_34 : decode cX7_set 34 = .ok (.iaload, 1) := by decide +kernel
theorem dX7_set_35 : decode cX7_set 35 = .ok (.istore_n 3, 1) := by decide +kernel
theorem dX7_set_36 : decode cX7_set 36 = .ok (.aload_n 0, 1) := by decide +kernel
theorem dX7_set_37 : decode cX7_set 37 = .ok (.getfield 9, 3) := by decide +kernel
theorem dX7_set_40 : decode cX7_set 40 = .ok (.iload_n 1, 1) := by decide +kernel
theorem dX7_set_41 : decode cX7_set 41 = .ok (.iload_n 2, 1) := by decide +kernel
theorem dX7_set_42 : decode cX7_set 42 = .ok (.iastore, 1) := by decide +kernel
theorem dX7_set_43 : decode cX7_set 43 = .ok (.iload_n 1, 1) := by decide +kernel
theorem dX7_set_44 : decode cX7_set 44 = .ok (.ifCond .eq 8, 3) := by decide +kernel
theorem dX7_set_47 : decode cX7_set 47 = .ok (.iload_n 1, 1) := by decide +kernel
theorem dX7_set_48 : decode cX7_set 48 = .ok (.iconst 1, 1) := by decide +kernel
theorem dX7_set_49 : decode cX7_set 49 = .ok (.if_icmp .ne 30, 3) := by decide +kernel
theorem dX7_set_52 : decode cX7_set 52 = .ok (.aload_n 0, 1) := by decide +kernel
theorem dX7_set_53 : decode cX7_set 53 = .ok (.getfield 16, 3) := by decide +kernel
theorem dX7_set_56 : decode cX7_set 56 = .ok (.aload_n 0, 1) := by decide +kernel
theorem dX7_set_57 : decode cX7_set 57 = .ok (.getfield 9, 3) := by decide +kernel
theorem dX7_set_60 : decode cX7_set 60 = .ok (.iconst 0, 1) := by decide +kernel
theorem dX7_set_61 : decode cX7_set 61 = .ok (.iaload, 1) := by decide +kernel
theorem dX7_set_62 : decode cX7_set 62 = .ok (.aload_n 0, 1) := by decide +kernel
theorem dX7_set_63 : decode cX7_set 63 = .ok (.getfield 9, 3) := by decide +kernel
theorem dX7_set_66 : decode cX7_set 66 = .ok (.iconst 1, 1) := by decide +kernel
theorem dX7_set_67 : decode cX7_set 67 = .ok (.iaload, 1) := by decide +kernel
theorem dX7_set_68 : decode cX7_set 68 = .ok (.invokevirtual 72, 3) := by decide +kernel
theorem dX7_set_71 : decode cX7_set 71 = .ok (.aload_n 0, 1) := by decide +kernel
theorem dX7_set_72 : decode cX7_set 72 = .ok (.getfield 30, 3) := by decide +kernel
theorem dX7_set_75 : decode cX7_set 75 = .ok (.iconst 0, 1) := by decide +kernel
theorem dX7_set_76 : decode cX7_set 76 = .ok (.putfield 76, 3) := by decide +kernel
theorem dX7_set_79 : decode cX7_set 79 = .ok (.aload_n 0, 1) := by decide +kernel
theorem dX7_set_80 : decode cX7_set 80 = .ok (.getfield 37, 3) := by decide +kernel
theorem dX7_set_83 : decode cX7_set 83 = .ok (.iconst 0, 1) := by decide +kernel
theorem dX7_set_84 : decode cX7_set 84 = .ok (.putfield 80, 3) := by decide +kernel
theorem dX7_set_87 : decode cX7_set 87 = .ok (.iload_n 3, 1) := by decide +kernel
theorem dX7_set_88 : decode cX7_set 88 = .ok (.ireturn, 1) := by decide +kernel
theorem dX7_answer_0 : decode cX7_answer 0 = .ok (.iload_n 1, 1) := by decide +kernel
theorem dX7_answer_1 : decode cX7_answer 1 = .ok (.bipush 12, 2) := by decide +kernel
theorem dX7_answer_3 : decode cX7_answer 3 = .ok (.invokestatic 62, 3) := by decide +kernel
theorem dX7_answer_6 : decode cX7_answer 6 = .ok (.ifCond .eq 32, 3) := by decide +kernel
theorem dX7_answer_9 : decode cX7_answer 9 = .ok (.iload_n 2, 1) := by decide +kernel
theorem dX7_answer_10 : decode cX7_answer 10 = .ok (.bipush 7, 2) := by decide +kernel
theorem dX7_answer_12 : decode cX7_answer 12 = .ok (.invokestatic 62, 3) := by decide +kernel
theorem dX7_answer_15 : decode cX7_answer 15 = .ok (.ifCond .eq 23, 3) := by decide +kernel
theorem dX7_answer_18 : decode cX7_answer 18 = .ok (.iload_n 3, 1) := by decide +kernel
theorem dX7_answer_19 : decode cX7_answer 19 = .ok (.iconst 3, 1) := by decide +kernel
theorem dX7_answer_20 : decode cX7_answer 20 = .ok (.invokestatic 62, 3) := by decide +kernel
theorem dX7_answer_23 : decode cX7_answer 23 = .ok (.ifCond .eq 15, 3) := by decide +kernel
theorem dX7_answer_26 : decode cX7_answer 26 = .ok (.aload_n 0, 1) := by decide +kernel
theorem dX7_answer_27 : decode cX7_answer 27 = .ok (.getfield 16, 3) := by decide +kernel
theorem dX7_answer_30 : decode cX7_answer 30 = .ok (.iload 4, 2) := by decide +kernel
theorem dX7_answer_32 : decode cX7_answer 32 = .ok (.invokevirtual 81, 3) := by decide +kernel
theorem dX7_answer_35 : decode cX7_answer 35 = .ok (.ifCond .ne 6, 3) := by decide +kernel
theorem dX7_answer_38 : decode cX7_answer 38 = .ok (.bipush (-2), 2) := by decide +kernel
theorem dX7_answer_40 : decode cX7_answer 40 = .ok (.ireturn, 1) := by decide +kernel
theorem dX7_answer_41 : decode cX7_answer 41 = .ok (.aload_n 0, 1) := by decide +kernel
theorem dX7_answer_42 : decode cX7_answer 42 = .ok (.getfield 16, 3) := by decide +kernel
theorem dX7_answer_45 : decode cX7_answer 45 = .ok (.invokevirtual 85, 3) := by decide +kernel
theorem dX7_answer_48 : decode cX7_answer 48 = .ok (.ifCond .eq 6, 3) := by decide +kernel
theorem dX7_answer_51 : decode cX7_answer 51 = .ok (.bipush (-4), 2) := by decide +kernel
theorem dX7_answer_53 : decode cX7_answer 53 = .ok (.ireturn, 1) := by decide +kernel
theorem dX7_answer_54 : decode cX7_answer 54 = .ok (.aload_n 0, 1) := by decide +kernel
theorem dX7_answer_55 : decode cX7_answer 55 = .ok (.iload_n 1, 1) := by decide +kernel
theorem dX7_answer_56 : decode cX7_answer 56 = .ok (.iload_n 2, 1) := by decide +kernel
theorem dX7_answer_57 : decode cX7_answer 57 = .ok (.iload_n 3, 1) := by decide +kernel
theorem dX7_answer_58 : decode cX7_answer 58 = .ok (.iload 4, 2) := by decide +kernel
theorem dX7_answer_60 : decode cX7_answer 60 = .ok (.invokevirtual 89, 3) := by decide +kernel
theorem dX7_answer_63 : decode cX7_answer 63 = .ok (.aload_n 0, 1) := by decide +kernel
theorem dX7_answer_64 : decode cX7_answer 64 = .ok (.getfield 16, 3) := by decide +kernel
theorem dX7_answer_67 : decode cX7_answer 67 = .ok (.getfield 93, 3) := by decide +kernel
theorem dX7_answer_70 : decode cX7_answer 70 = .ok (.ireturn, 1) := by decide +kernel
theorem dX7_read_0 : decode cX7_read 0 = .ok (.iload_n 1, 1) := by decide +kernel
theorem dX7_read_1 : decode cX7_read 1 = .ok (.iconst 4, 1) := by decide +kernel
theorem dX7_read_2 : decode cX7_read 2 = .ok (.invokestatic 62, 3) := by decide +kernel
theorem dX7_read_5 : decode cX7_read 5 = .ok (.ifCond .eq 23, 3) := by decide +kernel
theorem dX7_read_8 : decode cX7_read 8 = .ok (.iload_n 2, 1) := by decide +kernel
theorem dX7_read_9 : decode cX7_read 9 = .ok (.bipush 12, 2) := by decide +kernel
theorem dX7_read_11 : decode cX7_read 11 = .ok (.invokestatic 62, 3) := by decide +kernel
theorem dX7_read_14 : decode cX7_read 14 = .ok (.ifCond .eq 14, 3) := by decide +kernel
theorem dX7_read_17 : decode cX7_read 17 = .ok (.aload_n 0, 1) := by decide +kernel
theorem dX7_read_18 : decode cX7_read 18 = .ok (.getfield 16, 3) := by decide +kernel
theorem dX7_read_21 : decode cX7_read 21 = .ok (.iload_n 3, 1) := by decide +kernel
theorem dX7_read_22 : decode cX7_read 22 = .ok (.invokevirtual 81, 3) := by decide +kernel
theorem dX7_read_25 : decode cX7_read 25 = .ok (.ifCond .ne 6, 3) := by decide +kernel
theorem dX7_read_28 : decode cX7_read 28 = .ok (.bipush (-2), 2) := by decide +kernel
theorem dX7_read_30 : decode cX7_read 30 = .ok (.ireturn, 1) := by decide +kernel
theorem dX7_read_31 : decode cX7_read 31 = .ok (.aload_n 0, 1) := by decide +kernel
theorem dX7_read_32 : decode cX7_read 32 = .ok (.getfield 57, 3) := by decide +kernel
theorem dX7_read_35 : decode cX7_read 35 = .ok (.iload_n 1, 1) := by decide +kernel
theorem dX7_read_36 : decode cX7_read 36 = .ok (.aaload, 1) := by decide +kernel
theorem dX7_read_37 : decode cX7_read 37 = .ok (.astore 4, 2) := by decide +kernel
theorem dX7_read_39 : decode cX7_read 39 = .ok (.aload 4, 2) := by decide +kernel
theorem dX7_read_41 : decode cX7_read 41 = .ok (.getfield 97, 3) := by decide +kernel
theorem dX7_read_44 : decode cX7_read 44 = .ok (.ifCond .eq 9, 3) := by decide +kernel
theorem dX7_read_47 : decode cX7_read 47 = .ok (.aload_n 0, 1) := by decide +kernel
theorem dX7_read_48 : decode cX7_read 48 = .ok (.iconst 1, 1) := by decide +kernel
theorem dX7_read_49 : decode cX7_read 49 = .ok (.invokevirtual 100, 3) := by decide +kernel
theorem dX7_read_52 : decode cX7_read 52 = .ok (.ireturn, 1) := by decide +kernel
theorem dX7_read_53 : decode cX7_read 53 = .ok (.bipush 7, 2) := by decide +kernel
theorem dX7_read_55 : decode cX7_read 55 = .ok (.aload 4, 2) := by decide +kernel
theorem dX7_read_57 : decode cX7_read 57 = .ok (.getfield 104, 3) := by decide +kernel
theorem dX7_read_60 : decode cX7_read 60 = .ok (.invokestatic 107, 3) := by decide +kernel
theorem dX7_read_63 : decode cX7_read 63 = .ok (.istore 5, 2) := by decide +kernel
theorem dX7_read_65 : decode cX7_read 65 = .ok (.iconst 0, 1) := by decide +kernel
theorem dX7_read_66 : decode cX7_read 66 = .ok (.istore 6, 2) := by decide +kernel
theorem dX7_read_68 : decode cX7_read 68 = .ok (.iload 6, 2) := by decide +kernel
theorem dX7_read_70 : decode cX7_read 70 = .ok (.iload 5, 2) := by decide +kernel
theorem dX7_read_72 : decode cX7_read 72 = .ok (.if_icmp .ge 51, 3) := by decide +kernel
theorem dX7_read_75 : decode cX7_read 75 = .ok (.aload 4, 2) := by decide +kernel
theorem dX7_read_77 : decode cX7_read 77 = .ok (.getfield 113, 3) := by decide +kernel
theorem dX7_read_80 : decode cX7_read 80 = .ok (.iload 6, 2) := by decide +kernel
theorem dX7_read_82 : decode cX7_read 82 = .ok (.iaload, 1) := by decide +kernel
theorem dX7_read_83 : decode cX7_read 83 = .ok (.istore 7, 2) := by decide +kernel
theorem dX7_read_85 : decode cX7_read 85 = .ok (.iload 7, 2) := by decide +kernel
theorem dX7_read_87 : decode cX7_read 87 = .ok (.iconst 3, 1) := by decide +kernel
theorem dX7_read_88 : decode cX7_read 88 = .ok (.invokestatic 62, 3) := by decide +kernel
theorem dX7_read_91 : decode cX7_read 91 = .ok (.ifCond .eq 13, 3) := by decide +kernel
theorem dX7_read_94 : decode cX7_read 94 = .ok (.aload_n 0, 1) := by decide +kernel
theorem dX7_read_95 : decode cX7_read 95 = .ok (.getfield 16, 3) := by decide +kernel
theorem dX7_read_98 : decode cX7_read 98 = .ok (.invokevirtual 85, 3) := by decide +kernel
theorem dX7_read_101 : decode cX7_read 101 = .ok (.ifCond .eq 6, 3) := by decide +kernel
theorem dX7_read_104 : decode cX7_read 104 = .ok (.iload 6, 2) := by decide +kernel
theorem dX7_read_106 : decode cX7_read 106 = .ok (.ireturn, 1) := by decide +kernel
theorem dX7_read_107 : decode cX7_read 107 = .ok (.aload_n 0, 1) := by decide +kernel
theorem dX7_read_108 : decode cX7_read 108 = .ok (.iload_n 2, 1) := by decide +kernel
theorem dX7_read_109 : decode cX7_read 109 = .ok (.iload 6, 2) := by decide +kernel
theorem dX7_read_111 : decode cX7_read 111 = .ok (.iload 7, 2) := by decide +kernel
theorem dX7_read_113 : decode cX7_read 113 = .ok (.iload_n 3, 1) := by decide +kernel
theorem dX7_read_114 : decode cX7_read 114 = .ok (.invokevirtual 89, 3) := by decide +kernel
theorem dX7_read_117 : decode cX7_read 117 = .ok (.iinc 6 1, 3) := by decide +kernel
theorem dX7_read_120 : decode cX7_read 120 = .ok (.goto (-52), 3) := by decide +kernel
theorem dX7_read_123 : decode cX7_read 123 = .ok (.iload 5, 2) := by decide +kernel
theorem dX7_read_125 : decode cX7_read 125 = .ok (.ireturn, 1) := by decide +kernel
theorem dX7_said_0 : decode cX7_said 0 = .ok (.iload_n 1, 1) := by decide +kernel
theorem dX7_said_1 : decode cX7_said 1 = .ok (.bipush 12, 2) := by decide +kernel
theorem dX7_said_3 : decode cX7_said 3 = .ok (.invokestatic 62, 3) := by decide +kernel
theorem dX7_said_6 : decode cX7_said 6 = .ok (.ifCond .eq 12, 3) := by decide +kernel
theorem dX7_said_9 : decode cX7_said 9 = .ok (.iload_n 2, 1) := by decide +kernel
theorem dX7_said_10 : decode cX7_said 10 = .ok (.bipush 7, 2) := by decide +kernel
theorem dX7_said_12 : decode cX7_said 12 = .ok (.invokestatic 62, 3) := by decide +kernel
theorem dX7_said_15 : decode cX7_said 15 = .ok (.ifCond .ne 6, 3) := by decide +kernel
theorem dX7_said_18 : decode cX7_said 18 = .ok (.bipush (-2), 2) := by decide +kernel
theorem dX7_said_20 : decode cX7_said 20 = .ok (.ireturn, 1) := by decide +kernel
theorem dX7_said_21 : decode cX7_said 21 = .ok (.aload_n 0, 1) := by decide +kernel
theorem dX7_said_22 : decode cX7_said 22 = .ok (.getfield 16, 3) := by decide +kernel
theorem dX7_said_25 : decode cX7_said 25 = .ok (.iload_n 1, 1) := by decide +kernel
theorem dX7_said_26 : decode cX7_said 26 = .ok (.iload_n 2, 1) := by decide +kernel
theorem dX7_said_27 : decode cX7_said 27 = .ok (.invokevirtual 116, 3) := by decide +kernel
theorem dX7_said_30 : decode cX7_said 30 = .ok (.ireturn, 1) := by decide +kernel
theorem dX7_type_0 : decode cX7_type 0 = .ok (.iload_n 1, 1) := by decide +kernel
theorem dX7_type_1 : decode cX7_type 1 = .ok (.sipush 256, 3) := by decide +kernel
theorem dX7_type_4 : decode cX7_type 4 = .ok (.invokestatic 62, 3) := by decide +kernel
theorem dX7_type_7 : decode cX7_type 7 = .ok (.ifCond .ne 6, 3) := by decide +kernel
theorem dX7_type_10 : decode cX7_type 10 = .ok (.bipush (-2), 2) := by decide +kernel
theorem dX7_type_12 : decode cX7_type 12 = .ok (.ireturn, 1) := by decide +kernel
theorem dX7_type_13 : decode cX7_type 13 = .ok (.aload_n 0, 1) := by decide +kernel
theorem dX7_type_14 : decode cX7_type 14 = .ok (.getfield 23, 3) := by decide +kernel
theorem dX7_type_17 : decode cX7_type 17 = .ok (.getfield 119, 3) := by decide +kernel
theorem dX7_type_20 : decode cX7_type 20 = .ok (.bipush 60, 2) := by decide +kernel
theorem dX7_type_22 : decode cX7_type 22 = .ok (.if_icmp .lt 6, 3) := by decide +kernel
theorem dX7_type_25 : decode cX7_type 25 = .ok (.bipush (-4), 2) := by decide +kernel
theorem dX7_type_27 : decode cX7_type 27 = .ok (.ireturn, 1) := by decide +kernel
theorem dX7_type_28 : decode cX7_type 28 = .ok (.aload_n 0, 1) := by decide +kernel
theorem dX7_type_29 : decode cX7_type 29 = .ok (.getfield 23, 3) := by decide +kernel
theorem dX7_type_32 : decode cX7_type 32 = .ok (.iload_n 1, 1) := by decide +kernel
theorem dX7_type_33 : decode cX7_type 33 = .ok (.invokevirtual 122, 3) := by decide +kernel
theorem dX7_type_36 : decode cX7_type 36 = .ok (.aload_n 0, 1) := by decide +kernel
theorem dX7_type_37 : decode cX7_type 37 = .ok (.getfield 37, 3) := by decide +kernel
theorem dX7_type_40 : decode cX7_type 40 = .ok (.iconst 0, 1) := by decide +kernel
theorem dX7_type_41 : decode cX7_type 41 = .ok (.putfield 80, 3) := by decide +kernel
theorem dX7_type_44 : decode cX7_type 44 = .ok (.aload_n 0, 1) := by decide +kernel
theorem dX7_type_45 : decode cX7_type 45 = .ok (.getfield 23, 3) := by decide +kernel
theorem dX7_type_48 : decode cX7_type 48 = .ok (.getfield 119, 3) := by decide +kernel
theorem dX7_type_51 : decode cX7_type 51 = .ok (.ireturn, 1) := by decide +kernel
theorem dX7_wipe_0 : decode cX7_wipe 0 = .ok (.aload_n 0, 1) := by decide +kernel
theorem dX7_wipe_1 : decode cX7_wipe 1 = .ok (.getfield 23, 3) := by decide +kernel
theorem dX7_wipe_4 : decode cX7_wipe 4 = .ok (.getfield 119, 3) := by decide +kernel
theorem dX7_wipe_7 : decode cX7_wipe 7 = .ok (.istore_n 1, 1) := by decide +kernel
theorem dX7_wipe_8 : decode cX7_wipe 8 = .ok (.aload_n 0, 1) := by decide +kernel
theorem dX7_wipe_9 : decode cX7_wipe 9 = .ok (.getfield 23, 3) := by decide +kernel
theorem dX7_wipe_12 : decode cX7_wipe 12 = .ok (.invokevirtual 126, 3) := by decide +kernel
theorem dX7_wipe_15 : decode cX7_wipe 15 = .ok (.aload_n 0, 1) := by decide +kernel
theorem dX7_wipe_16 : decode cX7_wipe 16 = .ok (.getfield 37, 3) := by decide +kernel
theorem dX7_wipe_19 : decode cX7_wipe 19 = .ok (.iconst 0, 1) := by decide +kernel
theorem dX7_wipe_20 : decode cX7_wipe 20 = .ok (.putfield 80, 3) := by decide +kernel
theorem dX7_wipe_23 : decode cX7_wipe 23 = .ok (.iload_n 1, 1) := by decide +kernel
theorem dX7_wipe_24 : decode cX7_wipe 24 = .ok (.ireturn, 1) := by decide +kernel
theorem dX7_fault_0 : decode cX7_fault 0 = .ok (.aload_n 0, 1) := by decide +kernel
theorem dX7_fault_1 : decode cX7_fault 1 = .ok (.getfield 23, 3) := by decide +kernel
theorem dX7_fault_4 : decode cX7_fault 4 = .ok (.getfield 129, 3) := by decide +kernel
theorem dX7_fault_7 : decode cX7_fault 7 = .ok (.ireturn, 1) := by decide +kernel
theorem dX7_needed_0 : decode cX7_needed 0 = .ok (.aload_n 0, 1) := by decide +kernel
theorem dX7_needed_1 : decode cX7_needed 1 = .ok (.iload_n 1, 1) := by decide +kernel
theorem dX7_needed_2 : decode cX7_needed 2 = .ok (.invokevirtual 132, 3) := by decide +kernel
theorem dX7_needed_5 : decode cX7_needed 5 = .ok (.ifCond .eq 24, 3) := by decide +kernel
theorem dX7_needed_8 : decode cX7_needed 8 = .ok (.aload_n 0, 1) := by decide +kernel
theorem dX7_needed_9 : decode cX7_needed 9 = .ok (.iload_n 2, 1) := by decide +kernel
theorem dX7_needed_10 : decode cX7_needed 10 = .ok (.invokevirtual 132, 3) := by decide +kernel
theorem dX7_needed_13 : decode cX7_needed 13 = .ok (.ifCond .eq 16, 3) := by decide +kernel
theorem dX7_needed_16 : decode cX7_needed 16 = .ok (.iload_n 1, 1) := by decide +kernel
theorem dX7_needed_17 : decode cX7_needed 17 = .ok (.iload_n 2, 1) := by decide +kernel
theorem dX7_needed_18 : decode cX7_needed 18 = .ok (.if_icmp .eq 11, 3) := by decide +kernel
theorem dX7_needed_21 : decode cX7_needed 21 = .ok (.iload_n 3, 1) := by decide +kernel
theorem dX7_needed_22 : decode cX7_needed 22 = .ok (.iconst 2, 1) := by decide +kernel
theorem dX7_needed_23 : decode cX7_needed 23 = .ok (.invokestatic 62, 3) := by decide +kernel
theorem dX7_needed_26 : decode cX7_needed 26 = .ok (.ifCond .ne 6, 3) := by decide +kernel
theorem dX7_needed_29 : decode cX7_needed 29 = .ok (.bipush (-2), 2) := by decide +kernel
theorem dX7_needed_31 : decode cX7_needed 31 = .ok (.ireturn, 1) := by decide +kernel
theorem dX7_needed_32 : decode cX7_needed 32 = .ok (.aload_n 0, 1) := by decide +kernel
theorem dX7_needed_33 : decode cX7_needed 33 = .ok (.iload_n 2, 1) := by decide +kernel
theorem dX7_needed_34 : decode cX7_needed 34 = .ok (.iload_n 3, 1) := by decide +kernel
theorem dX7_needed_35 : decode cX7_needed 35 = .ok (.invokevirtual 135, 3) := by decide +kernel
theorem dX7_needed_38 : decode cX7_needed 38 = .ok (.iconst 1, 1) := by decide +kernel
theorem dX7_needed_39 : decode cX7_needed 39 = .ok (.iload_n 1, 1) := by decide +kernel
theorem dX7_needed_40 : decode cX7_needed 40 = .ok (.ishl, 1) := by decide +kernel
theorem dX7_needed_41 : decode cX7_needed 41 = .ok (.iand, 1) := by decide +kernel
theorem dX7_needed_42 : decode cX7_needed 42 = .ok (.ifCond .eq 7, 3) := by decide +kernel
theorem dX7_needed_45 : decode cX7_needed 45 = .ok (.iconst 1, 1) := by decide +kernel
theorem dX7_needed_46 : decode cX7_needed 46 = .ok (.goto 4, 3) := by decide +kernel
theorem dX7_needed_49 : decode cX7_needed 49 = .ok (.iconst 0, 1) := by decide +kernel
theorem dX7_needed_50 : decode cX7_needed 50 = .ok (.ireturn, 1) := by decide +kernel
theorem dX7_errors_0 : decode cX7_errors 0 = .ok (.iload_n 1, 1) := by decide +kernel
theorem dX7_errors_1 : decode cX7_errors 1 = .ok (.bipush 12, 2) := by decide +kernel
theorem dX7_errors_3 : decode cX7_errors 3 = .ok (.invokestatic 62, 3) := by decide +kernel
theorem dX7_errors_6 : decode cX7_errors 6 = .ok (.ifCond .eq 13, 3) := by decide +kernel
theorem dX7_errors_9 : decode cX7_errors 9 = .ok (.iload_n 2, 1) := by decide +kernel
theorem dX7_errors_10 : decode cX7_errors 10 = .ok (.sipush 128, 3) := by decide +kernel
theorem dX7_errors_13 : decode cX7_errors 13 = .ok (.invokestatic 62, 3) := by decide +kernel
theorem dX7_errors_16 : decode cX7_errors 16 = .ok (.ifCond .ne 6, 3) := by decide +kernel
theorem dX7_errors_19 : decode cX7_errors 19 = .ok (.bipush (-2), 2) := by decide +kernel
theorem dX7_errors_21 : decode cX7_errors 21 = .ok (.ireturn, 1) := by decide +kernel
theorem dX7_errors_22 : decode cX7_errors 22 = .ok (.aload_n 0, 1) := by decide +kernel
theorem dX7_errors_23 : decode cX7_errors 23 = .ok (.getfield 16, 3) := by decide +kernel
theorem dX7_errors_26 : decode cX7_errors 26 = .ok (.iload_n 1, 1) := by decide +kernel
theorem dX7_errors_27 : decode cX7_errors 27 = .ok (.iload_n 2, 1) := by decide +kernel
theorem dX7_errors_28 : decode cX7_errors 28 = .ok (.invokevirtual 138, 3) := by decide +kernel
theorem dX7_errors_31 : decode cX7_errors 31 = .ok (.ireturn, 1) := by decide +kernel
theorem dX7_off_0 : decode cX7_off 0 = .ok (.iload_n 1, 1) := by decide +kernel
theorem dX7_off_1 : decode cX7_off 1 = .ok (.iconst 2, 1) := by decide +kernel
theorem dX7_off_2 : decode cX7_off 2 = .ok (.invokestatic 62, 3) := by decide +kernel
theorem dX7_off_5 : decode cX7_off 5 = .ok (.ifCond .ne 6, 3) := by decide +kernel
theorem dX7_off_8 : decode cX7_off 8 = .ok (.bipush (-2), 2) := by decide +kernel
theorem dX7_off_10 : decode cX7_off 10 = .ok (.ireturn, 1) := by decide +kernel
theorem dX7_off_11 : decode cX7_off 11 = .ok (.aload_n 0, 1) := by decide +kernel
theorem dX7_off_12 : decode cX7_off 12 = .ok (.getfield 30, 3) := by decide +kernel
theorem dX7_off_15 : decode cX7_off 15 = .ok (.aload_n 0, 1) := by decide +kernel
theorem dX7_off_16 : decode cX7_off 16 = .ok (.getfield 16, 3) := by decide +kernel
theorem dX7_off_19 : decode cX7_off 19 = .ok (.invokevirtual 141, 3) := by decide +kernel
theorem dX7_off_22 : decode cX7_off 22 = .ok (.iload_n 1, 1) := by decide +kernel
theorem dX7_off_23 : decode cX7_off 23 = .ok (.ifCond .ne 13, 3) := by decide +kernel
theorem dX7_off_26 : decode cX7_off 26 = .ok (.aload_n 0, 1) := by decide +kernel
theorem dX7_off_27 : decode cX7_off 27 = .ok (.getfield 30, 3) := by decide +kernel
theorem dX7_off_30 : decode cX7_off 30 = .ok (.getfield 145, 3) := by decide +kernel
theorem dX7_off_33 : decode cX7_off 33 = .ok (.goto 10, 3) := by decide +kernel
theorem dX7_off_36 : decode cX7_off 36 = .ok (.aload_n 0, 1) := by decide +kernel
theorem dX7_off_37 : decode cX7_off 37 = .ok (.getfield 30, 3) := by decide +kernel
theorem dX7_off_40 : decode cX7_off 40 = .ok (.getfield 148, 3) := by decide +kernel
theorem dX7_off_43 : decode cX7_off 43 = .ok (.ireturn, 1) := by decide +kernel
theorem dX7_row_0 : decode cX7_row 0 = .ok (.aload_n 0, 1) := by decide +kernel
theorem dX7_row_1 : decode cX7_row 1 = .ok (.iload_n 1, 1) := by decide +kernel
theorem dX7_row_2 : decode cX7_row 2 = .ok (.invokevirtual 132, 3) := by decide +kernel
theorem dX7_row_5 : decode cX7_row 5 = .ok (.ifCond .ne 6, 3) := by decide +kernel
theorem dX7_row_8 : decode cX7_row 8 = .ok (.bipush (-2), 2) := by decide +kernel
theorem dX7_row_10 : decode cX7_row 10 = .ok (.ireturn, 1) := by decide +kernel
theorem dX7_row_11 : decode cX7_row 11 = .ok (.aload_n 0, 1) := by decide +kernel
theorem dX7_row_12 : decode cX7_row 12 = .ok (.getfield 30, 3) := by decide +kernel
theorem dX7_row_15 : decode cX7_row 15 = .ok (.aload_n 0, 1) := by decide +kernel
theorem dX7_row_16 : decode cX7_row 16 = .ok (.getfield 16, 3) := by decide +kernel
theorem dX7_row_19 : decode cX7_row 19 = .ok (.invokevirtual 141, 3) := by decide +kernel
theorem dX7_row_22 : decode cX7_row 22 = .ok (.aload_n 0, 1) := by decide +kernel
theorem dX7_row_23 : decode cX7_row 23 = .ok (.getfield 30, 3) := by decide +kernel
theorem dX7_row_26 : decode cX7_row 26 = .ok (.getfield 151, 3) := by decide +kernel
theorem dX7_row_29 : decode cX7_row 29 = .ok (.iload_n 1, 1) := by decide +kernel
theorem dX7_row_30 : decode cX7_row 30 = .ok (.iaload, 1) := by decide +kernel
theorem dX7_row_31 : decode cX7_row 31 = .ok (.ireturn, 1) := by decide +kernel
theorem dX7_step_0 : decode cX7_step 0 = .ok (.iload_n 1, 1) := by decide +kernel
theorem dX7_step_1 : decode cX7_step 1 = .ok (.bipush 12, 2) := by decide +kernel
theorem dX7_step_3 : decode cX7_step 3 = .ok (.invokestatic 62, 3) := by decide +kernel
theorem dX7_step_6 : decode cX7_step 6 = .ok (.ifCond .eq 11, 3) := by decide +kernel
theorem dX7_step_9 : decode cX7_step 9 = .ok (.iload_n 2, 1) := by decide +kernel
theorem dX7_step_10 : decode cX7_step 10 = .ok (.iconst 2, 1) := by decide +kernel
theorem dX7_step_11 : decode cX7_step 11 = .ok (.invokestatic 62, 3) := by decide +kernel
theorem dX7_step_14 : decode cX7_step 14 = .ok (.ifCond .ne 6, 3) := by decide +kernel
theorem dX7_step_17 : decode cX7_step 17 = .ok (.bipush (-2), 2) := by decide +kernel
theorem dX7_step_19 : decode cX7_step 19 = .ok (.ireturn, 1) := by decide +kernel
theorem dX7_step_20 : decode cX7_step 20 = .ok (.aload_n 0, 1) := by decide +kernel
theorem dX7_step_21 : decode cX7_step 21 = .ok (.getfield 30, 3) := by decide +kernel
theorem dX7_step_24 : decode cX7_step 24 = .ok (.aload_n 0, 1) := by decide +kernel
theorem dX7_step_25 : decode cX7_step 25 = .ok (.getfield 16, 3) := by decide +kernel
theorem dX7_step_28 : decode cX7_step 28 = .ok (.invokevirtual 141, 3) := by decide +kernel
theorem dX7_step_31 : decode cX7_step 31 = .ok (.iload_n 2, 1) := by decide +kernel
theorem dX7_step_32 : decode cX7_step 32 = .ok (.ifCond .ne 21, 3) := by decide +kernel
theorem dX7_step_35 : decode cX7_step 35 = .ok (.aload_n 0, 1) := by decide +kernel
theorem dX7_step_36 : decode cX7_step 36 = .ok (.getfield 16, 3) := by decide +kernel
theorem dX7_step_39 : decode cX7_step 39 = .ok (.iload_n 1, 1) := by decide +kernel
theorem dX7_step_40 : decode cX7_step 40 = .ok (.aload_n 0, 1) := by decide +kernel
theorem dX7_step_41 : decode cX7_step 41 = .ok (.getfield 30, 3) := by decide +kernel
theorem dX7_step_44 : decode cX7_step 44 = .ok (.getfield 151, 3) := by decide +kernel
theorem dX7_step_47 : decode cX7_step 47 = .ok (.invokevirtual 154, 3) := by decide +kernel
theorem dX7_step_50 : decode cX7_step 50 = .ok (.goto 18, 3) := by decide +kernel
theorem dX7_step_53 : decode cX7_step 53 = .ok (.aload_n 0, 1) := by decide +kernel
theorem dX7_step_54 : decode cX7_step 54 = .ok (.getfield 16, 3) := by decide +kernel
theorem dX7_step_57 : decode cX7_step 57 = .ok (.iload_n 1, 1) := by decide +kernel
theorem dX7_step_58 : decode cX7_step 58 = .ok (.aload_n 0, 1) := by decide +kernel
theorem dX7_step_59 : decode cX7_step 59 = .ok (.getfield 30, 3) := by decide +kernel
theorem dX7_step_62 : decode cX7_step 62 = .ok (.getfield 151, 3) := by decide +kernel
theorem dX7_step_65 : decode cX7_step 65 = .ok (.invokevirtual 158, 3) := by decide +kernel
theorem dX7_step_68 : decode cX7_step 68 = .ok (.ireturn, 1) := by decide +kernel
theorem dX7_offBy_0 : decode cX7_offBy 0 = .ok (.iload_n 1, 1) := by decide +kernel
theorem dX7_offBy_1 : decode cX7_offBy 1 = .ok (.iconst 4, 1) := by decide +kernel
theorem dX7_offBy_2 : decode cX7_offBy 2 = .ok (.invokestatic 62, 3) := by decide +kernel
theorem dX7_offBy_5 : decode cX7_offBy 5 = .ok (.ifCond .ne 6, 3) := by decide +kernel
theorem dX7_offBy_8 : decode cX7_offBy 8 = .ok (.bipush (-2), 2) := by decide +kernel
theorem dX7_offBy_10 : decode cX7_offBy 10 = .ok (.ireturn, 1) := by decide +kernel
theorem dX7_offBy_11 : decode cX7_offBy 11 = .ok (.aload_n 0, 1) := by decide +kernel
theorem dX7_offBy_12 : decode cX7_offBy 12 = .ok (.getfield 57, 3) := by decide +kernel
theorem dX7_offBy_15 : decode cX7_offBy 15 = .ok (.iload_n 1, 1) := by decide +kernel
theorem dX7_offBy_16 : decode cX7_offBy 16 = .ok (.aaload, 1) := by decide +kernel
theorem dX7_offBy_17 : decode cX7_offBy 17 = .ok (.astore_n 2, 1) := by decide +kernel
theorem dX7_offBy_18 : decode cX7_offBy 18 = .ok (.aload_n 2, 1) := by decide +kernel
theorem dX7_offBy_19 : decode cX7_offBy 19 = .ok (.getfield 97, 3) := by decide +kernel
theorem dX7_offBy_22 : decode cX7_offBy 22 = .ok (.ifCond .eq 9, 3) := by decide +kernel
theorem dX7_offBy_25 : decode cX7_offBy 25 = .ok (.aload_n 0, 1) := by decide +kernel
theorem dX7_offBy_26 : decode cX7_offBy 26 = .ok (.iconst 1, 1) := by decide +kernel
theorem dX7_offBy_27 : decode cX7_offBy 27 = .ok (.invokevirtual 100, 3) := by decide +kernel
theorem dX7_offBy_30 : decode cX7_offBy 30 = .ok (.ireturn, 1) := by decide +kernel
theorem dX7_offBy_31 : decode cX7_offBy 31 = .ok (.aload_n 0, 1) := by decide +kernel
theorem dX7_offBy_32 : decode cX7_offBy 32 = .ok (.aload_n 2, 1) := by decide +kernel
theorem dX7_offBy_33 : decode cX7_offBy 33 = .ok (.invokevirtual 161, 3) := by decide +kernel
theorem dX7_offBy_36 : decode cX7_offBy 36 = .ok (.ifCond .ne 6, 3) := by decide +kernel
theorem dX7_offBy_39 : decode cX7_offBy 39 = .ok (.bipush (-3), 2) := by decide +kernel
theorem dX7_offBy_41 : decode cX7_offBy 41 = .ok (.ireturn, 1) := by decide +kernel
theorem dX7_offBy_42 : decode cX7_offBy 42 = .ok (.iconst 0, 1) := by decide +kernel
theorem dX7_offBy_43 : decode cX7_offBy 43 = .ok (.istore_n 3, 1) := by decide +kernel
theorem dX7_offBy_44 : decode cX7_offBy 44 = .ok (.iconst 0, 1) := by decide +kernel
theorem dX7_offBy_45 : decode cX7_offBy 45 = .ok (.istore 4, 2) := by decide +kernel
theorem dX7_offBy_47 : decode cX7_offBy 47 = .ok (.iload 4, 2) := by decide +kernel
theorem dX7_offBy_49 : decode cX7_offBy 49 = .ok (.bipush 12, 2) := by decide +kernel
theorem dX7_offBy_51 : decode cX7_offBy 51 = .ok (.if_icmp .ge 25, 3) := by decide +kernel
theorem dX7_offBy_54 : decode cX7_offBy 54 = .ok (.iload_n 3, 1) := by decide +kernel
theorem dX7_offBy_55 : decode cX7_offBy 55 = .ok (.aload_n 0, 1) := by decide +kernel
theorem dX7_offBy_56 : decode cX7_offBy 56 = .ok (.getfield 16, 3) := by decide +kernel
theorem dX7_offBy_59 : decode cX7_offBy 59 = .ok (.iload 4, 2) := by decide +kernel
theorem dX7_offBy_61 : decode cX7_offBy 61 = .ok (.aload_n 2, 1) := by decide +kernel
theorem dX7_offBy_62 : decode cX7_offBy 62 = .ok (.getfield 113, 3) := by decide +kernel
theorem dX7_offBy_65 : decode cX7_offBy 65 = .ok (.invokevirtual 158, 3) := by decide +kernel
theorem dX7_offBy_68 : decode cX7_offBy 68 = .ok (.iadd, 1) := by decide +kernel
theorem dX7_offBy_69 : decode cX7_offBy 69 = .ok (.istore_n 3, 1) := by decide +kernel
theorem dX7_offBy_70 : decode cX7_offBy 70 = .ok (.iinc 4 1, 3) := by decide +kernel
theorem dX7_offBy_73 : decode cX7_offBy 73 = .ok (.goto (-26), 3) := by decide +kernel
theorem dX7_offBy_76 : decode cX7_offBy 76 = .ok (.iload_n 3, 1) := by decide +kernel
theorem dX7_offBy_77 : decode cX7_offBy 77 = .ok (.ireturn, 1) := by decide +kernel
theorem dX7_fit_0 : decode cX7_fit 0 = .ok (.iload_n 1, 1) := by decide +kernel
theorem dX7_fit_1 : decode cX7_fit 1 = .ok (.iconst 2, 1) := by decide +kernel
theorem dX7_fit_2 : decode cX7_fit 2 = .ok (.invokestatic 62, 3) := by decide +kernel
theorem dX7_fit_5 : decode cX7_fit 5 = .ok (.ifCond .eq 11, 3) := by decide +kernel
theorem dX7_fit_8 : decode cX7_fit 8 = .ok (.iload_n 2, 1) := by decide +kernel
theorem dX7_fit_9 : decode cX7_fit 9 = .ok (.iconst 2, 1) := by decide +kernel
theorem dX7_fit_10 : decode cX7_fit 10 = .ok (.invokestatic 62, 3) := by decide +kernel
theorem dX7_fit_13 : decode cX7_fit 13 = .ok (.ifCond .ne 9, 3) := by decide +kernel
theorem dX7_fit_16 : decode cX7_fit 16 = .ok (.bipush (-2), 2) := by decide +kernel
theorem dX7_fit_18 : decode cX7_fit 18 = .ok (.invokestatic 165, 3) := by decide +kernel
theorem dX7_fit_21 : decode cX7_fit 21 = .ok (.lreturn, 1) := by decide +kernel
theorem dX7_fit_22 : decode cX7_fit 22 = .ok (.aload_n 0, 1) := by decide +kernel
theorem dX7_fit_23 : decode cX7_fit 23 = .ok (.getfield 16, 3) := by decide +kernel
theorem dX7_fit_26 : decode cX7_fit 26 = .ok (.invokevirtual 169, 3) := by decide +kernel
theorem dX7_fit_29 : decode cX7_fit 29 = .ok (.istore_n 3, 1) := by decide +kernel
theorem dX7_fit_30 : decode cX7_fit 30 = .ok (.iload_n 3, 1) := by decide +kernel
theorem dX7_fit_31 : decode cX7_fit 31 = .ok (.ifCond .ne 9, 3) := by decide +kernel
theorem dX7_fit_34 : decode cX7_fit 34 = .ok (.bipush (-3), 2) := by decide +kernel
theorem dX7_fit_36 : decode cX7_fit 36 = .ok (.invokestatic 165, 3) := by decide +kernel
theorem dX7_fit_39 : decode cX7_fit 39 = .ok (.lreturn, 1) := by decide +kernel
theorem dX7_fit_40 : decode cX7_fit 40 = .ok (.aload_n 0, 1) := by decide +kernel
theorem dX7_fit_41 : decode cX7_fit 41 = .ok (.getfield 30, 3) := by decide +kernel
theorem dX7_fit_44 : decode cX7_fit 44 = .ok (.aload_n 0, 1) := by decide +kernel
theorem dX7_fit_45 : decode cX7_fit 45 = .ok (.getfield 16, 3) := by decide +kernel
theorem dX7_fit_48 : decode cX7_fit 48 = .ok (.invokevirtual 141, 3) := by decide +kernel
theorem dX7_fit_51 : decode cX7_fit 51 = .ok (.iload_n 1, 1) := by decide +kernel
theorem dX7_fit_52 : decode cX7_fit 52 = .ok (.ifCond .ne 15, 3) := by decide +kernel
theorem dX7_fit_55 : decode cX7_fit 55 = .ok (.iload_n 3, 1) := by decide +kernel
theorem dX7_fit_56 : decode cX7_fit 56 = .ok (.aload_n 0, 1) := by decide +kernel
theorem dX7_fit_57 : decode cX7_fit 57 = .ok (.getfield 30, 3) := by decide +kernel
theorem dX7_fit_60 : decode cX7_fit 60 = .ok (.getfield 145, 3) := by decide +kernel
theorem dX7_fit_63 : decode cX7_fit 63 = .ok (.isub, 1) := by decide +kernel
theorem dX7_fit_64 : decode cX7_fit 64 = .ok (.goto 10, 3) := by decide +kernel
theorem dX7_fit_67 : decode cX7_fit 67 = .ok (.aload_n 0, 1) := by decide +kernel
theorem dX7_fit_68 : decode cX7_fit 68 = .ok (.getfield 16, 3) := by decide +kernel
theorem dX7_fit_71 : decode cX7_fit 71 = .ok (.invokevirtual 173, 3) := by decide +kernel
theorem dX7_fit_74 : decode cX7_fit 74 = .ok (.istore 4, 2) := by decide +kernel
theorem dX7_fit_76 : decode cX7_fit 76 = .ok (.iload 4, 2) := by decide +kernel
theorem dX7_fit_78 : decode cX7_fit 78 = .ok (.i2l, 1) := by decide +kernel
theorem dX7_fit_79 : decode cX7_fit 79 = .ok (.iload_n 3, 1) := by decide +kernel
theorem dX7_fit_80 : decode cX7_fit 80 = .ok (.i2l, 1) := by decide +kernel
theorem dX7_fit_81 : decode cX7_fit 81 = .ok (.iload_n 2, 1) := by decide +kernel
theorem dX7_fit_82 : decode cX7_fit 82 = .ok (.invokestatic 176, 3) := by decide +kernel
theorem dX7_fit_85 : decode cX7_fit 85 = .ok (.lreturn, 1) := by decide +kernel
theorem dX7_odd_0 : decode cX7_odd 0 = .ok (.aload_n 0, 1) := by decide +kernel
theorem dX7_odd_1 : decode cX7_odd 1 = .ok (.getfield 30, 3) := by decide +kernel
theorem dX7_odd_4 : decode cX7_odd 4 = .ok (.aload_n 0, 1) := by decide +kernel
theorem dX7_odd_5 : decode cX7_odd 5 = .ok (.getfield 16, 3) := by decide +kernel
theorem dX7_odd_8 : decode cX7_odd 8 = .ok (.invokevirtual 141, 3) := by decide +kernel
theorem dX7_odd_11 : decode cX7_odd 11 = .ok (.iconst (-1), 1) := by decide +kernel
theorem dX7_odd_12 : decode cX7_odd 12 = .ok (.istore_n 1, 1) := by decide +kernel
theorem dX7_odd_13 : decode cX7_odd 13 = .ok (.iconst 0, 1) := by decide +kernel
theorem dX7_odd_14 : decode cX7_odd 14 = .ok (.istore_n 2, 1) := by decide +kernel
theorem dX7_odd_15 : decode cX7_odd 15 = .ok (.iconst 0, 1) := by decide +kernel
theorem dX7_odd_16 : decode cX7_odd 16 = .ok (.istore_n 3, 1) := by decide +kernel
theorem dX7_odd_17 : decode cX7_odd 17 = .ok (.iload_n 3, 1) := by decide +kernel
theorem dX7_odd_18 : decode cX7_odd 18 = .ok (.bipush 12, 2) := by decide +kernel
theorem dX7_odd_20 : decode cX7_odd 20 = .ok (.if_icmp .ge 37, 3) := by decide +kernel
theorem dX7_odd_23 : decode cX7_odd 23 = .ok (.aload_n 0, 1) := by decide +kernel
theorem dX7_odd_24 : decode cX7_odd 24 = .ok (.getfield 16, 3) := by decide +kernel
theorem dX7_odd_27 : decode cX7_odd 27 = .ok (.iload_n 3, 1) := by decide +kernel
theorem dX7_odd_28 : decode cX7_odd 28 = .ok (.aload_n 0, 1) := by decide +kernel
theorem dX7_odd_29 : decode cX7_odd 29 = .ok (.getfield 30, 3) := by decide +kernel
theorem dX7_odd_32 : decode cX7_odd 32 = .ok (.getfield 151, 3) := by decide +kernel
theorem dX7_odd_35 : decode cX7_odd 35 = .ok (.invokevirtual 158, 3) := by decide +kernel
theorem dX7_odd_38 : decode cX7_odd 38 = .ok (.istore 4, 2) := by decide +kernel
theorem dX7_odd_40 : decode cX7_odd 40 = .ok (.iload 4, 2) := by decide +kernel
theorem dX7_odd_42 : decode cX7_odd 42 = .ok (.iload_n 2, 1) := by decide +kernel
theorem dX7_odd_43 : decode cX7_odd 43 = .ok (.if_icmp .le 8, 3) := by decide +kernel
theorem dX7_odd_46 : decode cX7_odd 46 = .ok (.iload 4, 2) := by decide +kernel
theorem dX7_odd_48 : decode cX7_odd 48 = .ok (.istore_n 2, 1) := by decide +kernel
theorem dX7_odd_49 : decode cX7_odd 49 = .ok (.iload_n 3, 1) := by decide +kernel
theorem dX7_odd_50 : decode cX7_odd 50 = .ok (.istore_n 1, 1) := by decide +kernel
theorem dX7_odd_51 : decode cX7_odd 51 = .ok (.iinc 3 1, 3) := by decide +kernel
theorem dX7_odd_54 : decode cX7_odd 54 = .ok (.goto (-37), 3) := by decide +kernel
theorem dX7_odd_57 : decode cX7_odd 57 = .ok (.iload_n 1, 1) := by decide +kernel
theorem dX7_odd_58 : decode cX7_odd 58 = .ok (.ireturn, 1) := by decide +kernel
theorem dX7_without_0 : decode cX7_without 0 = .ok (.aload_n 0, 1) := by decide +kernel
theorem dX7_without_1 : decode cX7_without 1 = .ok (.iload_n 1, 1) := by decide +kernel
theorem dX7_without_2 : decode cX7_without 2 = .ok (.invokevirtual 132, 3) := by decide +kernel
theorem dX7_without_5 : decode cX7_without 5 = .ok (.ifCond .eq 11, 3) := by decide +kernel
theorem dX7_without_8 : decode cX7_without 8 = .ok (.iload_n 2, 1) := by decide +kernel
theorem dX7_without_9 : decode cX7_without 9 = .ok (.iconst 2, 1) := by decide +kernel
theorem dX7_without_10 : decode cX7_without 10 = .ok (.invokestatic 62, 3) := by decide +kernel
theorem dX7_without_13 : decode cX7_without 13 = .ok (.ifCond .ne 6, 3) := by decide +kernel
theorem dX7_without_16 : decode cX7_without 16 = .ok (.bipush (-2), 2) := by decide +kernel
theorem dX7_without_18 : decode cX7_without 18 = .ok (.ireturn, 1) := by decide +kernel
theorem dX7_without_19 : decode cX7_without 19 = .ok (.aload_n 0, 1) := by decide +kernel
theorem dX7_without_20 : decode cX7_without 20 = .ok (.getfield 30, 3) := by decide +kernel
theorem dX7_without_23 : decode cX7_without 23 = .ok (.aload_n 0, 1) := by decide +kernel
theorem dX7_without_24 : decode cX7_without 24 = .ok (.getfield 16, 3) := by decide +kernel
theorem dX7_without_27 : decode cX7_without 27 = .ok (.invokevirtual 141, 3) := by decide +kernel
theorem dX7_without_30 : decode cX7_without 30 = .ok (.aload_n 0, 1) := by decide +kernel
theorem dX7_without_31 : decode cX7_without 31 = .ok (.getfield 30, 3) := by decide +kernel
theorem dX7_without_34 : decode cX7_without 34 = .ok (.iload_n 1, 1) := by decide +kernel
theorem dX7_without_35 : decode cX7_without 35 = .ok (.iload_n 2, 1) := by decide +kernel
theorem dX7_without_36 : decode cX7_without 36 = .ok (.invokevirtual 180, 3) := by decide +kernel
theorem dX7_without_39 : decode cX7_without 39 = .ok (.ireturn, 1) := by decide +kernel
theorem dX7_worst_0 : decode cX7_worst 0 = .ok (.iload_n 1, 1) := by decide +kernel
theorem dX7_worst_1 : decode cX7_worst 1 = .ok (.iconst 2, 1) := by decide +kernel
theorem dX7_worst_2 : decode cX7_worst 2 = .ok (.invokestatic 62, 3) := by decide +kernel
theorem dX7_worst_5 : decode cX7_worst 5 = .ok (.ifCond .ne 6, 3) := by decide +kernel
theorem dX7_worst_8 : decode cX7_worst 8 = .ok (.bipush (-2), 2) := by decide +kernel
theorem dX7_worst_10 : decode cX7_worst 10 = .ok (.ireturn, 1) := by decide +kernel
theorem dX7_worst_11 : decode cX7_worst 11 = .ok (.aload_n 0, 1) := by decide +kernel
theorem dX7_worst_12 : decode cX7_worst 12 = .ok (.getfield 30, 3) := by decide +kernel
theorem dX7_worst_15 : decode cX7_worst 15 = .ok (.aload_n 0, 1) := by decide +kernel
theorem dX7_worst_16 : decode cX7_worst 16 = .ok (.getfield 16, 3) := by decide +kernel
theorem dX7_worst_19 : decode cX7_worst 19 = .ok (.invokevirtual 141, 3) := by decide +kernel
theorem dX7_worst_22 : decode cX7_worst 22 = .ok (.iconst 0, 1) := by decide +kernel
theorem dX7_worst_23 : decode cX7_worst 23 = .ok (.istore_n 2, 1) := by decide +kernel
theorem dX7_worst_24 : decode cX7_worst 24 = .ok (.iconst 1, 1) := by decide +kernel
theorem dX7_worst_25 : decode cX7_worst 25 = .ok (.istore_n 3, 1) := by decide +kernel
theorem dX7_worst_26 : decode cX7_worst 26 = .ok (.iload_n 3, 1) := by decide +kernel
theorem dX7_worst_27 : decode cX7_worst 27 = .ok (.aload_n 0, 1) := by decide +kernel
theorem dX7_worst_28 : decode cX7_worst 28 = .ok (.getfield 16, 3) := by decide +kernel
theorem dX7_worst_31 : decode cX7_worst 31 = .ok (.getfield 183, 3) := by decide +kernel
theorem dX7_worst_34 : decode cX7_worst 34 = .ok (.if_icmp .ge 32, 3) := by decide +kernel
theorem dX7_worst_37 : decode cX7_worst 37 = .ok (.aload_n 0, 1) := by decide +kernel
theorem dX7_worst_38 : decode cX7_worst 38 = .ok (.getfield 30, 3) := by decide +kernel
theorem dX7_worst_41 : decode cX7_worst 41 = .ok (.iload_n 3, 1) := by decide +kernel
theorem dX7_worst_42 : decode cX7_worst 42 = .ok (.iload_n 1, 1) := by decide +kernel
theorem dX7_worst_43 : decode cX7_worst 43 = .ok (.invokevirtual 180, 3) := by decide +kernel
theorem dX7_worst_46 : decode cX7_worst 46 = .ok (.aload_n 0, 1) := by decide +kernel
theorem dX7_worst_47 : decode cX7_worst 47 = .ok (.getfield 30, 3) := by decide +kernel
theorem dX7_worst_50 : decode cX7_worst 50 = .ok (.iload_n 2, 1) := by decide +kernel
theorem dX7_worst_51 : decode cX7_worst 51 = .ok (.iload_n 1, 1) := by decide +kernel
theorem dX7_worst_52 : decode cX7_worst 52 = .ok (.invokevirtual 180, 3) := by decide +kernel
theorem dX7_worst_55 : decode cX7_worst 55 = .ok (.if_icmp .ge 5, 3) := by decide +kernel
theorem dX7_worst_58 : decode cX7_worst 58 = .ok (.iload_n 3, 1) := by decide +kernel
theorem dX7_worst_59 : decode cX7_worst 59 = .ok (.istore_n 2, 1) := by decide +kernel
theorem dX7_worst_60 : decode cX7_worst 60 = .ok (.iinc 3 1, 3) := by decide +kernel
theorem dX7_worst_63 : decode cX7_worst 63 = .ok (.goto (-37), 3) := by decide +kernel
theorem dX7_worst_66 : decode cX7_worst 66 = .ok (.iload_n 2, 1) := by decide +kernel
theorem dX7_worst_67 : decode cX7_worst 67 = .ok (.ireturn, 1) := by decide +kernel
theorem dX7_states_0 : decode cX7_states 0 = .ok (.iload_n 1, 1) := by decide +kernel
theorem dX7_states_1 : decode cX7_states 1 = .ok (.iconst (-1), 1) := by decide +kernel
theorem dX7_states_2 : decode cX7_states 2 = .ok (.if_icmp .ge 6, 3) := by decide +kernel
theorem dX7_states_5 : decode cX7_states 5 = .ok (.bipush (-2), 2) := by decide +kernel
theorem dX7_states_7 : decode cX7_states 7 = .ok (.ireturn, 1) := by decide +kernel
theorem dX7_states_8 : decode cX7_states 8 = .ok (.aload_n 0, 1) := by decide +kernel
theorem dX7_states_9 : decode cX7_states 9 = .ok (.invokevirtual 186, 3) := by decide +kernel
theorem dX7_states_12 : decode cX7_states 12 = .ok (.iload_n 1, 1) := by decide +kernel
theorem dX7_states_13 : decode cX7_states 13 = .ok (.iconst (-1), 1) := by decide +kernel
theorem dX7_states_14 : decode cX7_states 14 = .ok (.if_icmp .ne 11, 3) := by decide +kernel
theorem dX7_states_17 : decode cX7_states 17 = .ok (.aload_n 0, 1) := by decide +kernel
theorem dX7_states_18 : decode cX7_states 18 = .ok (.getfield 37, 3) := by decide +kernel
theorem dX7_states_21 : decode cX7_states 21 = .ok (.getfield 189, 3) := by decide +kernel
theorem dX7_states_24 : decode cX7_states 24 = .ok (.ireturn, 1) := by decide +kernel
theorem dX7_states_25 : decode cX7_states 25 = .ok (.iload_n 1, 1) := by decide +kernel
theorem dX7_states_26 : decode cX7_states 26 = .ok (.aload_n 0, 1) := by decide +kernel
theorem dX7_states_27 : decode cX7_states 27 = .ok (.getfield 37, 3) := by decide +kernel
theorem dX7_states_30 : decode cX7_states 30 = .ok (.getfield 189, 3) := by decide +kernel
theorem dX7_states_33 : decode cX7_states 33 = .ok (.if_icmp .ge 15, 3) := by decide +kernel
theorem dX7_states_36 : decode cX7_states 36 = .ok (.aload_n 0, 1) := by decide +kernel
theorem dX7_states_37 : decode cX7_states 37 = .ok (.getfield 37, 3) := by decide +kernel
theorem dX7_states_40 : decode cX7_states 40 = .ok (.getfield 190, 3) := by decide +kernel
theorem dX7_states_43 : decode cX7_states 43 = .ok (.iload_n 1, 1) := by decide +kernel
theorem dX7_states_44 : decode cX7_states 44 = .ok (.iaload, 1) := by decide +kernel
theorem dX7_states_45 : decode cX7_states 45 = .ok (.goto 4, 3) := by decide +kernel
theorem dX7_states_48 : decode cX7_states 48 = .ok (.iconst (-1), 1) := by decide +kernel
theorem dX7_states_49 : decode cX7_states 49 = .ok (.ireturn, 1) := by decide +kernel
theorem dX7_belongs_0 : decode cX7_belongs 0 = .ok (.iload_n 1, 1) := by decide +kernel
theorem dX7_belongs_1 : decode cX7_belongs 1 = .ok (.bipush 12, 2) := by decide +kernel
theorem dX7_belongs_3 : decode cX7_belongs 3 = .ok (.invokestatic 62, 3) := by decide +kernel
theorem dX7_belongs_6 : decode cX7_belongs 6 = .ok (.ifCond .eq 11, 3) := by decide +kernel
theorem dX7_belongs_9 : decode cX7_belongs 9 = .ok (.iload_n 2, 1) := by decide +kernel
theorem dX7_belongs_10 : decode cX7_belongs 10 = .ok (.iconst 3, 1) := by decide +kernel
theorem dX7_belongs_11 : decode cX7_belongs 11 = .ok (.invokestatic 62, 3) := by decide +kernel
theorem dX7_belongs_14 : decode cX7_belongs 14 = .ok (.ifCond .ne 6, 3) := by decide +kernel
theorem dX7_belongs_17 : decode cX7_belongs 17 = .ok (.bipush (-2), 2) := by decide +kernel
theorem dX7_belongs_19 : decode cX7_belongs 19 = .ok (.ireturn, 1) := by decide +kernel
theorem dX7_belongs_20 : decode cX7_belongs 20 = .ok (.aload_n 0, 1) := by decide +kernel
theorem dX7_belongs_21 : decode cX7_belongs 21 = .ok (.invokevirtual 186, 3) := by decide +kernel
theorem dX7_belongs_24 : decode cX7_belongs 24 = .ok (.aload_n 0, 1) := by decide +kernel
theorem dX7_belongs_25 : decode cX7_belongs 25 = .ok (.iload_n 1, 1) := by decide +kernel
theorem dX7_belongs_26 : decode cX7_belongs 26 = .ok (.invokevirtual 193, 3) := by decide +kernel
theorem dX7_belongs_29 : decode cX7_belongs 29 = .ok (.istore_n 3, 1) := by decide +kernel
theorem dX7_belongs_30 : decode cX7_belongs 30 = .ok (.iload_n 2, 1) := by decide +kernel
theorem dX7_belongs_31 : decode cX7_belongs 31 = .ok (.ifCond .ne 5, 3) := by decide +kernel
theorem dX7_belongs_34 : decode cX7_belongs 34 = .ok (.iload_n 3, 1) := by decide +kernel
theorem dX7_belongs_35 : decode cX7_belongs 35 = .ok (.ireturn, 1) := by decide +kernel
theorem dX7_belongs_36 : decode cX7_belongs 36 = .ok (.aload_n 0, 1) := by decide +kernel
theorem dX7_belongs_37 : decode cX7_belongs 37 = .ok (.getfield 16, 3) := by decide +kernel
theorem dX7_belongs_40 : decode cX7_belongs 40 = .ok (.iload_n 1, 1) := by decide +kernel
theorem dX7_belongs_41 : decode cX7_belongs 41 = .ok (.iload_n 3, 1) := by decide +kernel
theorem dX7_belongs_42 : decode cX7_belongs 42 = .ok (.invokevirtual 138, 3) := by decide +kernel
theorem dX7_belongs_45 : decode cX7_belongs 45 = .ok (.istore 4, 2) := by decide +kernel
theorem dX7_belongs_47 : decode cX7_belongs 47 = .ok (.iload_n 2, 1) := by decide +kernel
theorem dX7_belongs_48 : decode cX7_belongs 48 = .ok (.iconst 1, 1) := by decide +kernel
theorem dX7_belongs_49 : decode cX7_belongs 49 = .ok (.if_icmp .ne 8, 3) := by decide +kernel
theorem dX7_belongs_52 : decode cX7_belongs 52 = .ok (.iload 4, 2) := by decide +kernel
theorem dX7_belongs_54 : decode cX7_belongs 54 = .ok (.goto 10, 3) := by decide +kernel
theorem dX7_belongs_57 : decode cX7_belongs 57 = .ok (.aload_n 0, 1) := by decide +kernel
theorem dX7_belongs_58 : decode cX7_belongs 58 = .ok (.iload_n 1, 1) := by decide +kernel
theorem dX7_belongs_59 : decode cX7_belongs 59 = .ok (.iload 4, 2) := by decide +kernel
theorem dX7_belongs_61 : decode cX7_belongs 61 = .ok (.invokevirtual 196, 3) := by decide +kernel
theorem dX7_belongs_64 : decode cX7_belongs 64 = .ok (.ireturn, 1) := by decide +kernel
theorem dX7_next_0 : decode cX7_next 0 = .ok (.iload_n 1, 1) := by decide +kernel
theorem dX7_next_1 : decode cX7_next 1 = .ok (.sipush 128, 3) := by decide +kernel
theorem dX7_next_4 : decode cX7_next 4 = .ok (.invokestatic 62, 3) := by decide +kernel
theorem dX7_next_7 : decode cX7_next 7 = .ok (.ifCond .eq 11, 3) := by decide +kernel
theorem dX7_next_10 : decode cX7_next 10 = .ok (.iload_n 2, 1) := by decide +kernel
theorem dX7_next_11 : decode cX7_next 11 = .ok (.iconst 3, 1) := by decide +kernel
theorem dX7_next_12 : decode cX7_next 12 = .ok (.invokestatic 62, 3) := by decide +kernel
theorem dX7_next_15 : decode cX7_next 15 = .ok (.ifCond .ne 6, 3) := by decide +kernel
theorem dX7_next_18 : decode cX7_next 18 = .ok (.bipush (-2), 2) := by decide +kernel
theorem dX7_next_20 : decode cX7_next 20 = .ok (.ireturn, 1) := by decide +kernel
theorem dX7_next_21 : decode cX7_next 21 = .ok (.aload_n 0, 1) := by decide +kernel
theorem dX7_next_22 : decode cX7_next 22 = .ok (.invokevirtual 186, 3) := by decide +kernel
theorem dX7_next_25 : decode cX7_next 25 = .ok (.iload_n 1, 1) := by decide +kernel
theorem dX7_next_26 : decode cX7_next 26 = .ok (.aload_n 0, 1) := by decide +kernel
theorem dX7_next_27 : decode cX7_next 27 = .ok (.getfield 37, 3) := by decide +kernel
theorem dX7_next_30 : decode cX7_next 30 = .ok (.getfield 199, 3) := by decide +kernel
theorem dX7_next_33 : decode cX7_next 33 = .ok (.iand, 1) := by decide +kernel
theorem dX7_next_34 : decode cX7_next 34 = .ok (.istore_n 3, 1) := by decide +kernel
theorem dX7_next_35 : decode cX7_next 35 = .ok (.iload_n 2, 1) := by decide +kernel
theorem dX7_next_36 : decode cX7_next 36 = .ok (.iconst 2, 1) := by decide +kernel
theorem dX7_next_37 : decode cX7_next 37 = .ok (.if_icmp .ne 21, 3) := by decide +kernel
theorem dX7_next_40 : decode cX7_next 40 = .ok (.aload_n 0, 1) := by decide +kernel
theorem dX7_next_41 : decode cX7_next 41 = .ok (.getfield 37, 3) := by decide +kernel
theorem dX7_next_44 : decode cX7_next 44 = .ok (.getfield 202, 3) := by decide +kernel
theorem dX7_next_47 : decode cX7_next 47 = .ok (.iload_n 3, 1) := by decide +kernel
theorem dX7_next_48 : decode cX7_next 48 = .ok (.baload, 1) := by decide +kernel
theorem dX7_next_49 : decode cX7_next 49 = .ok (.ifCond .eq 7, 3) := by decide +kernel
theorem dX7_next_52 : decode cX7_next 52 = .ok (.iconst 1, 1) := by decide +kernel
theorem dX7_next_53 : decode cX7_next 53 = .ok (.goto 4, 3) := by decide +kernel
theorem dX7_next_56 : decode cX7_next 56 = .ok (.iconst 0, 1) := by decide +kernel
theorem dX7_next_57 : decode cX7_next 57 = .ok (.ireturn, 1) := by decide +kernel
theorem dX7_next_58 : decode cX7_next 58 = .ok (.aload_n 0, 1) := by decide +kernel
theorem dX7_next_59 : decode cX7_next 59 = .ok (.getfield 37, 3) := by decide +kernel
theorem dX7_next_62 : decode cX7_next 62 = .ok (.iload_n 3, 1) := by decide +kernel
theorem dX7_next_63 : decode cX7_next 63 = .ok (.invokevirtual 206, 3) := by decide +kernel
theorem dX7_next_66 : decode cX7_next 66 = .ok (.iload_n 2, 1) := by decide +kernel
theorem dX7_next_67 : decode cX7_next 67 = .ok (.ifCond .ne 9, 3) := by decide +kernel
theorem dX7_next_70 : decode cX7_next 70 = .ok (.iload_n 3, 1) := by decide +kernel
theorem dX7_next_71 : decode cX7_next 71 = .ok (.iconst (-1), 1) := by decide +kernel
theorem dX7_next_72 : decode cX7_next 72 = .ok (.ixor, 1) := by decide +kernel
theorem dX7_next_73 : decode cX7_next 73 = .ok (.goto 4, 3) := by decide +kernel
theorem dX7_next_76 : decode cX7_next 76 = .ok (.iload_n 3, 1) := by decide +kernel
theorem dX7_next_77 : decode cX7_next 77 = .ok (.iand, 1) := by decide +kernel
theorem dX7_next_78 : decode cX7_next 78 = .ok (.ireturn, 1) := by decide +kernel
theorem dX7_paths_0 : decode cX7_paths 0 = .ok (.aload_n 0, 1) := by decide +kernel
theorem dX7_paths_1 : decode cX7_paths 1 = .ok (.invokevirtual 186, 3) := by decide +kernel
theorem dX7_paths_4 : decode cX7_paths 4 = .ok (.aload_n 0, 1) := by decide +kernel
theorem dX7_paths_5 : decode cX7_paths 5 = .ok (.getfield 37, 3) := by decide +kernel
theorem dX7_paths_8 : decode cX7_paths 8 = .ok (.invokevirtual 209, 3) := by decide +kernel
theorem dX7_paths_11 : decode cX7_paths 11 = .ok (.ireturn, 1) := by decide +kernel
theorem dX7_deep_0 : decode cX7_deep 0 = .ok (.aload_n 0, 1) := by decide +kernel
theorem dX7_deep_1 : decode cX7_deep 1 = .ok (.iload_n 1, 1) := by decide +kernel
theorem dX7_deep_2 : decode cX7_deep 2 = .ok (.invokevirtual 132, 3) := by decide +kernel
theorem dX7_deep_5 : decode cX7_deep 5 = .ok (.ifCond .ne 6, 3) := by decide +kernel
theorem dX7_deep_8 : decode cX7_deep 8 = .ok (.bipush (-2), 2) := by decide +kernel
theorem dX7_deep_10 : decode cX7_deep 10 = .ok (.ireturn, 1) := by decide +kernel
theorem dX7_deep_11 : decode cX7_deep 11 = .ok (.aload_n 0, 1) := by decide +kernel
theorem dX7_deep_12 : decode cX7_deep 12 = .ok (.invokevirtual 186, 3) := by decide +kernel
theorem dX7_deep_15 : decode cX7_deep 15 = .ok (.aload_n 0, 1) := by decide +kernel
theorem dX7_deep_16 : decode cX7_deep 16 = .ok (.getfield 16, 3) := by decide +kernel
theorem dX7_deep_19 : decode cX7_deep 19 = .ok (.getfield 183, 3) := by decide +kernel
theorem dX7_deep_22 : decode cX7_deep 22 = .ok (.istore_n 2, 1) := by decide +kernel
theorem dX7_deep_23 : decode cX7_deep 23 = .ok (.iconst 0, 1) := by decide +kernel
theorem dX7_deep_24 : decode cX7_deep 24 = .ok (.istore_n 3, 1) := by decide +kernel
theorem dX7_deep_25 : decode cX7_deep 25 = .ok (.iload_n 3, 1) := by decide +kernel
theorem dX7_deep_26 : decode cX7_deep 26 = .ok (.aload_n 0, 1) := by decide +kernel
theorem dX7_deep_27 : decode cX7_deep 27 = .ok (.getfield 37, 3) := by decide +kernel
theorem dX7_deep_30 : decode cX7_deep 30 = .ok (.getfield 189, 3) := by decide +kernel
theorem dX7_deep_33 : decode cX7_deep 33 = .ok (.if_icmp .ge 42, 3) := by decide +kernel
theorem dX7_deep_36 : decode cX7_deep 36 = .ok (.aload_n 0, 1) := by decide +kernel
theorem dX7_deep_37 : decode cX7_deep 37 = .ok (.getfield 37, 3) := by decide +kernel
theorem dX7_deep_40 : decode cX7_deep 40 = .ok (.getfield 190, 3) := by decide +kernel
theorem dX7_deep_43 : decode cX7_deep 43 = .ok (.iload_n 3, 1) := by decide +kernel
theorem dX7_deep_44 : decode cX7_deep 44 = .ok (.iaload, 1) := by decide +kernel
theorem dX7_deep_45 : decode cX7_deep 45 = .ok (.iconst 1, 1) := by decide +kernel
theorem dX7_deep_46 : decode cX7_deep 46 = .ok (.iload_n 1, 1) := by decide +kernel
theorem dX7_deep_47 : decode cX7_deep 47 = .ok (.ishl, 1) := by decide +kernel
theorem dX7_deep_48 : decode cX7_deep 48 = .ok (.iand, 1) := by decide +kernel
theorem dX7_deep_49 : decode cX7_deep 49 = .ok (.ifCond .eq 20, 3) := by decide +kernel
theorem dX7_deep_52 : decode cX7_deep 52 = .ok (.iload_n 2, 1) := by decide +kernel
theorem dX7_deep_53 : decode cX7_deep 53 = .ok (.aload_n 0, 1) := by decide +kernel
theorem dX7_deep_54 : decode cX7_deep 54 = .ok (.getfield 37, 3) := by decide +kernel
theorem dX7_deep_57 : decode cX7_deep 57 = .ok (.getfield 190, 3) := by decide +kernel
theorem dX7_deep_60 : decode cX7_deep 60 = .ok (.iload_n 3, 1) := by decide +kernel
theorem dX7_deep_61 : decode cX7_deep 61 = .ok (.iaload, 1) := by decide +kernel
theorem dX7_deep_62 : decode cX7_deep 62 = .ok (.invokestatic 212, 3) := by decide +kernel
theorem dX7_deep_65 : decode cX7_deep 65 = .ok (.invokestatic 107, 3) := by decide +kernel
theorem dX7_deep_68 : decode cX7_deep 68 = .ok (.istore_n 2, 1) := by decide +kernel
theorem dX7_deep_69 : decode cX7_deep 69 = .ok (.iinc 3 1, 3) := by decide +kernel
theorem dX7_deep_72 : decode cX7_deep 72 = .ok (.goto (-47), 3) := by decide +kernel
theorem dX7_deep_75 : decode cX7_deep 75 = .ok (.iload_n 2, 1) := by decide +kernel
theorem dX7_deep_76 : decode cX7_deep 76 = .ok (.ireturn, 1) := by decide +kernel
theorem dX7_sure_0 : decode cX7_sure 0 = .ok (.iload_n 1, 1) := by decide +kernel
theorem dX7_sure_1 : decode cX7_sure 1 = .ok (.sipush 128, 3) := by decide +kernel
theorem dX7_sure_4 : decode cX7_sure 4 = .ok (.invokestatic 62, 3) := by decide +kernel
theorem dX7_sure_7 : decode cX7_sure 7 = .ok (.ifCond .eq 21, 3) := by decide +kernel
theorem dX7_sure_10 : decode cX7_sure 10 = .ok (.iload_n 2, 1) := by decide +kernel
theorem dX7_sure_11 : decode cX7_sure 11 = .ok (.sipush 128, 3) := by decide +kernel
theorem dX7_sure_14 : decode cX7_sure 14 = .ok (.invokestatic 62, 3) := by decide +kernel
theorem dX7_sure_17 : decode cX7_sure 17 = .ok (.ifCond .eq 11, 3) := by decide +kernel
theorem dX7_sure_20 : decode cX7_sure 20 = .ok (.iload_n 3, 1) := by decide +kernel
theorem dX7_sure_21 : decode cX7_sure 21 = .ok (.iconst 2, 1) := by decide +kernel
theorem dX7_sure_22 : decode cX7_sure 22 = .ok (.invokestatic 62, 3) := by decide +kernel
theorem dX7_sure_25 : decode cX7_sure 25 = .ok (.ifCond .ne 6, 3) := by decide +kernel
theorem dX7_sure_28 : decode cX7_sure 28 = .ok (.bipush (-2), 2) := by decide +kernel
theorem dX7_sure_30 : decode cX7_sure 30 = .ok (.ireturn, 1) := by decide +kernel
theorem dX7_sure_31 : decode cX7_sure 31 = .ok (.aload_n 0, 1) := by decide +kernel
theorem dX7_sure_32 : decode cX7_sure 32 = .ok (.invokevirtual 186, 3) := by decide +kernel
theorem dX7_sure_35 : decode cX7_sure 35 = .ok (.aload_n 0, 1) := by decide +kernel
theorem dX7_sure_36 : decode cX7_sure 36 = .ok (.getfield 44, 3) := by decide +kernel
theorem dX7_sure_39 : decode cX7_sure 39 = .ok (.aload_n 0, 1) := by decide +kernel
theorem dX7_sure_40 : decode cX7_sure 40 = .ok (.getfield 37, 3) := by decide +kernel
theorem dX7_sure_43 : decode cX7_sure 43 = .ok (.iload_n 1, 1) := by decide +kernel
theorem dX7_sure_44 : decode cX7_sure 44 = .ok (.aload_n 0, 1) := by decide +kernel
theorem dX7_sure_45 : decode cX7_sure 45 = .ok (.getfield 37, 3) := by decide +kernel
theorem dX7_sure_48 : decode cX7_sure 48 = .ok (.getfield 199, 3) := by decide +kernel
theorem dX7_sure_51 : decode cX7_sure 51 = .ok (.iand, 1) := by decide +kernel
theorem dX7_sure_52 : decode cX7_sure 52 = .ok (.iload_n 2, 1) := by decide +kernel
theorem dX7_sure_53 : decode cX7_sure 53 = .ok (.aload_n 0, 1) := by decide +kernel
theorem dX7_sure_54 : decode cX7_sure 54 = .ok (.getfield 37, 3) := by decide +kernel
theorem dX7_sure_57 : decode cX7_sure 57 = .ok (.getfield 199, 3) := by decide +kernel
theorem dX7_sure_60 : decode cX7_sure 60 = .ok (.iand, 1) := by decide +kernel
theorem dX7_sure_61 : decode cX7_sure 61 = .ok (.invokevirtual 217, 3) := by decide +kernel
theorem dX7_sure_64 : decode cX7_sure 64 = .ok (.istore 4, 2) := by decide +kernel
theorem dX7_sure_66 : decode cX7_sure 66 = .ok (.iload 4, 2) := by decide +kernel
theorem dX7_sure_68 : decode cX7_sure 68 = .ok (.ifCond .ne 6, 3) := by decide +kernel
theorem dX7_sure_71 : decode cX7_sure 71 = .ok (.bipush (-3), 2) := by decide +kernel
theorem dX7_sure_73 : decode cX7_sure 73 = .ok (.ireturn, 1) := by decide +kernel
theorem dX7_sure_74 : decode cX7_sure 74 = .ok (.iload 4, 2) := by decide +kernel
theorem dX7_sure_76 : decode cX7_sure 76 = .ok (.bipush 14, 2) := by decide +kernel
theorem dX7_sure_78 : decode cX7_sure 78 = .ok (.if_icmp .le 6, 3) := by decide +kernel
theorem dX7_sure_81 : decode cX7_sure 81 = .ok (.bipush (-4), 2) := by decide +kernel
theorem dX7_sure_83 : decode cX7_sure 83 = .ok (.ireturn, 1) := by decide +kernel
theorem dX7_sure_84 : decode cX7_sure 84 = .ok (.aload_n 0, 1) := by decide +kernel
theorem dX7_sure_85 : decode cX7_sure 85 = .ok (.getfield 44, 3) := by decide +kernel
theorem dX7_sure_88 : decode cX7_sure 88 = .ok (.invokevirtual 221, 3) := by decide +kernel
theorem dX7_sure_91 : decode cX7_sure 91 = .ok (.istore 5, 2) := by decide +kernel
theorem dX7_sure_93 : decode cX7_sure 93 = .ok (.iload_n 3, 1) := by decide +kernel
theorem dX7_sure_94 : decode cX7_sure 94 = .ok (.ifCond .ne 8, 3) := by decide +kernel
theorem dX7_sure_97 : decode cX7_sure 97 = .ok (.iload 5, 2) := by decide +kernel
theorem dX7_sure_99 : decode cX7_sure 99 = .ok (.goto 12, 3) := by decide +kernel
theorem dX7_sure_102 : decode cX7_sure 102 = .ok (.aload_n 0, 1) := by decide +kernel
theorem dX7_sure_103 : decode cX7_sure 103 = .ok (.getfield 44, 3) := by decide +kernel
theorem dX7_sure_106 : decode cX7_sure 106 = .ok (.iload 5, 2) := by decide +kernel
theorem dX7_sure_108 : decode cX7_sure 108 = .ok (.invokevirtual 224, 3) := by decide +kernel
theorem dX7_sure_111 : decode cX7_sure 111 = .ok (.ireturn, 1) := by decide +kernel
theorem dX7_chance_0 : decode cX7_chance 0 = .ok (.iload_n 1, 1) := by decide +kernel
theorem dX7_chance_1 : decode cX7_chance 1 = .ok (.iload_n 2, 1) := by decide +kernel
theorem dX7_chance_2 : decode cX7_chance 2 = .ok (.iload_n 3, 1) := by decide +kernel
theorem dX7_chance_3 : decode cX7_chance 3 = .ok (.iload 4, 2) := by decide +kernel
theorem dX7_chance_5 : decode cX7_chance 5 = .ok (.invokestatic 227, 3) := by decide +kernel
theorem dX7_chance_8 : decode cX7_chance 8 = .ok (.ifCond .eq 12, 3) := by decide +kernel
theorem dX7_chance_11 : decode cX7_chance 11 = .ok (.iload 5, 2) := by decide +kernel
theorem dX7_chance_13 : decode cX7_chance 13 = .ok (.iconst 2, 1) := by decide +kernel
theorem dX7_chance_14 : decode cX7_chance 14 = .ok (.invokestatic 62, 3) := by decide +kernel
theorem dX7_chance_17 : decode cX7_chance 17 = .ok (.ifCond .ne 9, 3) := by decide +kernel
theorem dX7_chance_20 : decode cX7_chance 20 = .ok (.bipush (-2), 2) := by decide +kernel
theorem dX7_chance_22 : decode cX7_chance 22 = .ok (.invokestatic 165, 3) := by decide +kernel
theorem dX7_chance_25 : decode cX7_chance 25 = .ok (.lreturn, 1) := by decide +kernel
theorem dX7_chance_26 : decode cX7_chance 26 = .ok (.aload_n 0, 1) := by decide +kernel
theorem dX7_chance_27 : decode cX7_chance 27 = .ok (.getfield 16, 3) := by decide +kernel
theorem dX7_chance_30 : decode cX7_chance 30 = .ok (.iload_n 1, 1) := by decide +kernel
theorem dX7_chance_31 : decode cX7_chance 31 = .ok (.iload_n 2, 1) := by decide +kernel
theorem dX7_chance_32 : decode cX7_chance 32 = .ok (.iload_n 3, 1) := by decide +kernel
theorem dX7_chance_33 : decode cX7_chance 33 = .ok (.iload 4, 2) := by decide +kernel
theorem dX7_chance_35 : decode cX7_chance 35 = .ok (.invokevirtual 231, 3) := by decide +kernel
theorem dX7_chance_38 : decode cX7_chance 38 = .ok (.aload_n 0, 1) := by decide +kernel
theorem dX7_chance_39 : decode cX7_chance 39 = .ok (.getfield 16, 3) := by decide +kernel
theorem dX7_chance_42 : decode cX7_chance 42 = .ok (.iload_n 1, 1) := by decide +kernel
theorem dX7_chance_43 : decode cX7_chance 43 = .ok (.invokevirtual 235, 3) := by decide +kernel
theorem dX7_chance_46 : decode cX7_chance 46 = .ok (.iload 5, 2) := by decide +kernel
theorem dX7_chance_48 : decode cX7_chance 48 = .ok (.invokestatic 176, 3) := by decide +kernel
theorem dX7_chance_51 : decode cX7_chance 51 = .ok (.lreturn, 1) := by decide +kernel
theorem dX7_share_0 : decode cX7_share 0 = .ok (.iload_n 1, 1) := by decide +kernel
theorem dX7_share_1 : decode cX7_share 1 = .ok (.iload_n 2, 1) := by decide +kernel
theorem dX7_share_2 : decode cX7_share 2 = .ok (.iload_n 3, 1) := by decide +kernel
theorem dX7_share_3 : decode cX7_share 3 = .ok (.iload 4, 2) := by decide +kernel
theorem dX7_share_5 : decode cX7_share 5 = .ok (.invokestatic 227, 3) := by decide +kernel
theorem dX7_share_8 : decode cX7_share 8 = .ok (.ifCond .eq 12, 3) := by decide +kernel
theorem dX7_share_11 : decode cX7_share 11 = .ok (.iload 5, 2) := by decide +kernel
theorem dX7_share_13 : decode cX7_share 13 = .ok (.iconst 2, 1) := by decide +kernel
theorem dX7_share_14 : decode cX7_share 14 = .ok (.invokestatic 62, 3) := by decide +kernel
theorem dX7_share_17 : decode cX7_share 17 = .ok (.ifCond .ne 9, 3) := by decide +kernel
theorem dX7_share_20 : decode cX7_share 20 = .ok (.bipush (-2), 2) := by decide +kernel
theorem dX7_share_22 : decode cX7_share 22 = .ok (.invokestatic 165, 3) := by decide +kernel
theorem dX7_share_25 : decode cX7_share 25 = .ok (.lreturn, 1) := by decide +kernel
theorem dX7_share_26 : decode cX7_share 26 = .ok (.aload_n 0, 1) := by decide +kernel
theorem dX7_share_27 : decode cX7_share 27 = .ok (.invokevirtual 186, 3) := by decide +kernel
theorem dX7_share_30 : decode cX7_share 30 = .ok (.iload_n 2, 1) := by decide +kernel
theorem dX7_share_31 : decode cX7_share 31 = .ok (.aload_n 0, 1) := by decide +kernel
theorem dX7_share_32 : decode cX7_share 32 = .ok (.getfield 37, 3) := by decide +kernel
theorem dX7_share_35 : decode cX7_share 35 = .ok (.getfield 199, 3) := by decide +kernel
theorem dX7_share_38 : decode cX7_share 38 = .ok (.iand, 1) := by decide +kernel
theorem dX7_share_39 : decode cX7_share 39 = .ok (.istore 6, 2) := by decide +kernel
theorem dX7_share_41 : decode cX7_share 41 = .ok (.aload_n 0, 1) := by decide +kernel
theorem dX7_share_42 : decode cX7_share 42 = .ok (.getfield 37, 3) := by decide +kernel
theorem dX7_share_45 : decode cX7_share 45 = .ok (.getfield 202, 3) := by decide +kernel
theorem dX7_share_48 : decode cX7_share 48 = .ok (.iload 6, 2) := by decide +kernel
theorem dX7_share_50 : decode cX7_share 50 = .ok (.baload, 1) := by decide +kernel
theorem dX7_share_51 : decode cX7_share 51 = .ok (.ifCond .ne 9, 3) := by decide +kernel
theorem dX7_share_54 : decode cX7_share 54 = .ok (.bipush (-2), 2) := by decide +kernel
theorem dX7_share_56 : decode cX7_share 56 = .ok (.invokestatic 165, 3) := by decide +kernel
theorem dX7_share_59 : decode cX7_share 59 = .ok (.lreturn, 1) := by decide +kernel
theorem dX7_share_60 : decode cX7_share 60 = .ok (.lconst 0, 1) := by decide +kernel
theorem dX7_share_61 : decode cX7_share 61 = .ok (.lstore 7, 2) := by decide +kernel
theorem dX7_share_63 : decode cX7_share 63 = .ok (.iconst 0, 1) := by decide +kernel
theorem dX7_share_64 : decode cX7_share 64 = .ok (.istore 9, 2) := by decide +kernel
theorem dX7_share_66 : decode cX7_share 66 = .ok (.iload 9, 2) := by decide +kernel
theorem dX7_share_68 : decode cX7_share 68 = .ok (.aload_n 0, 1) := by decide +kernel
theorem dX7_share_69 : decode cX7_share 69 = .ok (.getfield 37, 3) := by decide +kernel
theorem dX7_share_72 : decode cX7_share 72 = .ok (.getfield 189, 3) := by decide +kernel
theorem dX7_share_75 : decode cX7_share 75 = .ok (.if_icmp .ge 35, 3) := by decide +kernel
theorem dX7_share_78 : decode cX7_share 78 = .ok (.lload 7, 2) := by decide +kernel
theorem dX7_share_80 : decode cX7_share 80 = .ok (.aload_n 0, 1) := by decide +kernel
theorem dX7_share_81 : decode cX7_share 81 = .ok (.getfield 16, 3) := by decide +kernel
theorem dX7_share_84 : decode cX7_share 84 = .ok (.iload_n 1, 1) := by decide +kernel
theorem dX7_share_85 : decode cX7_share 85 = .ok (.aload_n 0, 1) := by decide +kernel
theorem dX7_share_86 : decode cX7_share 86 = .ok (.getfield 37, 3) := by decide +kernel
theorem dX7_share_89 : decode cX7_share 89 = .ok (.getfield 190, 3) := by decide +kernel
theorem dX7_share_92 : decode cX7_share 92 = .ok (.iload 9, 2) := by decide +kernel
theorem dX7_share_94 : decode cX7_share 94 = .ok (.iaload, 1) := by decide +kernel
theorem dX7_share_95 : decode cX7_share 95 = .ok (.iload_n 3, 1) := by decide +kernel
theorem dX7_share_96 : decode cX7_share 96 = .ok (.iload 4, 2) := by decide +kernel
theorem dX7_share_98 : decode cX7_share 98 = .ok (.invokevirtual 231, 3) := by decide +kernel
theorem dX7_share_101 : decode cX7_share 101 = .ok (.ladd, 1) := by decide +kernel
theorem dX7_share_102 : decode cX7_share 102 = .ok (.lstore 7, 2) := by decide +kernel
theorem dX7_share_104 : decode cX7_share 104 = .ok (.iinc 9 1, 3) := by decide +kernel
theorem dX7_share_107 : decode cX7_share 107 = .ok (.goto (-41), 3) := by decide +kernel
theorem dX7_share_110 : decode cX7_share 110 = .ok (.lload 7, 2) := by decide +kernel
theorem dX7_share_112 : decode cX7_share 112 = .ok (.lconst 0, 1) := by decide +kernel
theorem dX7_share_113 : decode cX7_share 113 = .ok (.lcmp, 1) := by decide +kernel
theorem dX7_share_114 : decode cX7_share 114 = .ok (.ifCond .ne 9, 3) := by decide +kernel
theorem dX7_share_117 : decode cX7_share 117 = .ok (.bipush (-3), 2) := by decide +kernel
theorem dX7_share_119 : decode cX7_share 119 = .ok (.invokestatic 165, 3) := by decide +kernel
theorem dX7_share_122 : decode cX7_share 122 = .ok (.lreturn, 1) := by decide +kernel
theorem dX7_share_123 : decode cX7_share 123 = .ok (.aload_n 0, 1) := by decide +kernel
theorem dX7_share_124 : decode cX7_share 124 = .ok (.getfield 16, 3) := by decide +kernel
theorem dX7_share_127 : decode cX7_share 127 = .ok (.iload_n 1, 1) := by decide +kernel
theorem dX7_share_128 : decode cX7_share 128 = .ok (.iload 6, 2) := by decide +kernel
theorem dX7_share_130 : decode cX7_share 130 = .ok (.iload_n 3, 1) := by decide +kernel
theorem dX7_share_131 : decode cX7_share 131 = .ok (.iload 4, 2) := by decide +kernel
theorem dX7_share_133 : decode cX7_share 133 = .ok (.invokevirtual 231, 3) := by decide +kernel
theorem dX7_share_136 : decode cX7_share 136 = .ok (.lload 7, 2) := by decide +kernel
theorem dX7_share_138 : decode cX7_share 138 = .ok (.iload 5, 2) := by decide +kernel
theorem dX7_share_140 : decode cX7_share 140 = .ok (.invokestatic 176, 3) := by decide +kernel
theorem dX7_share_143 : decode cX7_share 143 = .ok (.lreturn, 1) := by decide +kernel
theorem dX7_likeliest_0 : decode cX7_likeliest 0 = .ok (.iload_n 1, 1) := by decide +kernel
theorem dX7_likeliest_1 : decode cX7_likeliest 1 = .ok (.iconst 0, 1) := by decide +kernel
theorem dX7_likeliest_2 : decode cX7_likeliest 2 = .ok (.iload_n 2, 1) := by decide +kernel
theorem dX7_likeliest_3 : decode cX7_likeliest 3 = .ok (.iload_n 3, 1) := by decide +kernel
theorem dX7_likeliest_4 : decode cX7_likeliest 4 = .ok (.invokestatic 227, 3) := by decide +kernel
theorem dX7_likeliest_7 : decode cX7_likeliest 7 = .ok (.ifCond .ne 6, 3) := by decide +kernel
theorem dX7_likeliest_10 : decode cX7_likeliest 10 = .ok (.bipush (-2), 2) := by decide +kernel
theorem dX7_likeliest_12 : decode cX7_likeliest 12 = .ok (.ireturn, 1) := by decide +kernel
theorem dX7_likeliest_13 : decode cX7_likeliest 13 = .ok (.aload_n 0, 1) := by decide +kernel
theorem dX7_likeliest_14 : decode cX7_likeliest 14 = .ok (.invokevirtual 186, 3) := by decide +kernel
theorem dX7_likeliest_17 : decode cX7_likeliest 17 = .ok (.iconst 0, 1) := by decide +kernel
theorem dX7_likeliest_18 : decode cX7_likeliest 18 = .ok (.istore 4, 2) := by decide +kernel
theorem dX7_likeliest_20 : decode cX7_likeliest 20 = .ok (.ldc2_w 238, 3) := by decide +kernel
theorem dX7_likeliest_23 : decode cX7_likeliest 23 = .ok (.lstore 5, 2) := by decide +kernel
theorem dX7_likeliest_25 : decode cX7_likeliest 25 = .ok (.iconst 0, 1) := by decide +kernel
theorem dX7_likeliest_26 : decode cX7_likeliest 26 = .ok (.istore 7, 2) := by decide +kernel
theorem dX7_likeliest_28 : decode cX7_likeliest 28 = .ok (.iload 7, 2) := by decide +kernel
theorem dX7_likeliest_30 : decode cX7_likeliest 30 = .ok (.aload_n 0, 1) := by decide +kernel
theorem dX7_likeliest_31 : decode cX7_likeliest 31 = .ok (.getfield 37, 3) := by decide +kernel
theorem dX7_likeliest_34 : decode cX7_likeliest 34 = .ok (.getfield 189, 3) := by decide +kernel
theorem dX7_likeliest_37 : decode cX7_likeliest 37 = .ok (.if_icmp .ge 55, 3) := by decide +kernel
theorem dX7_likeliest_40 : decode cX7_likeliest 40 = .ok (.aload_n 0, 1) := by decide +kernel
theorem dX7_likeliest_41 : decode cX7_likeliest 41 = .ok (.getfield 16, 3) := by decide +kernel
theorem dX7_likeliest_44 : decode cX7_likeliest 44 = .ok (.iload_n 1, 1) := by decide +kernel
theorem dX7_likeliest_45 : decode cX7_likeliest 45 = .ok (.aload_n 0, 1) := by decide +kernel
theorem dX7_likeliest_46 : decode cX7_likeliest 46 = .ok (.getfield 37, 3) := by decide +kernel
theorem dX7_likeliest_49 : decode cX7_likeliest 49 = .ok (.getfield 190, 3) := by decide +kernel
theorem dX7_likeliest_52 : decode cX7_likeliest 52 = .ok (.iload 7, 2) := by decide +kernel
theorem dX7_likeliest_54 : decode cX7_likeliest 54 = .ok (.iaload, 1) := by decide +kernel
theorem dX7_likeliest_55 : decode cX7_likeliest 55 = .ok (.iload_n 2, 1) := by decide +kernel
theorem dX7_likeliest_56 : decode cX7_likeliest 56 = .ok (.iload_n 3, 1) := by decide +kernel
theorem dX7_likeliest_57 : decode cX7_likeliest 57 = .ok (.invokevirtual 231, 3) := by decide +kernel
theorem dX7_likeliest_60 : decode cX7_likeliest 60 = .ok (.lstore 8, 2) := by decide +kernel
theorem dX7_likeliest_62 : decode cX7_likeliest 62 = .ok (.lload 8, 2) := by decide +kernel
theorem dX7_likeliest_64 : decode cX7_likeliest 64 = .ok (.lload 5, 2) := by decide +kernel
theorem dX7_likeliest_66 : decode cX7_likeliest 66 = .ok (.lcmp, 1) := by decide +kernel
theorem dX7_likeliest_67 : decode cX7_likeliest 67 = .ok (.ifCond .le 19, 3) := by decide +kernel
theorem dX7_likeliest_70 : decode cX7_likeliest 70 = .ok (.lload 8, 2) := by decide +kernel
theorem dX7_likeliest_72 : decode cX7_likeliest 72 = .ok (.lstore 5, 2) := by decide +kernel
theorem dX7_likeliest_74 : decode cX7_likeliest 74 = .ok (.aload_n 0, 1) := by decide +kernel
theorem dX7_likeliest_75 : decode cX7_likeliest 75 = .ok (.getfield 37, 3) := by decide +kernel
theorem dX7_likeliest_78 : decode cX7_likeliest 78 = .ok (.getfield 190, 3) := by decide +kernel
theorem dX7_likeliest_81 : decode cX7_likeliest 81 = .ok (.iload 7, 2) := by decide +kernel
theorem dX7_likeliest_83 : decode cX7_likeliest 83 = .ok (.iaload, 1) := by decide +kernel
theorem dX7_likeliest_84 : decode cX7_likeliest 84 = .ok (.istore 4, 2) := by decide +kernel
theorem dX7_likeliest_86 : decode cX7_likeliest 86 = .ok (.iinc 7 1, 3) := by decide +kernel
theorem dX7_likeliest_89 : decode cX7_likeliest 89 = .ok (.goto (-61), 3) := by decide +kernel
theorem dX7_likeliest_92 : decode cX7_likeliest 92 = .ok (.iload 4, 2) := by decide +kernel
theorem dX7_likeliest_94 : decode cX7_likeliest 94 = .ok (.ireturn, 1) := by decide +kernel
theorem dX7_lessons_0 : decode cX7_lessons 0 = .ok (.iload_n 1, 1) := by decide +kernel
theorem dX7_lessons_1 : decode cX7_lessons 1 = .ok (.iconst 5, 1) := by decide +kernel
theorem dX7_lessons_2 : decode cX7_lessons 2 = .ok (.invokestatic 62, 3) := by decide +kernel
theorem dX7_lessons_5 : decode cX7_lessons 5 = .ok (.ifCond .eq 13, 3) := by decide +kernel
theorem dX7_lessons_8 : decode cX7_lessons 8 = .ok (.iload_n 2, 1) := by decide +kernel
theorem dX7_lessons_9 : decode cX7_lessons 9 = .ok (.iconst (-1), 1) := by decide +kernel
theorem dX7_lessons_10 : decode cX7_lessons 10 = .ok (.if_icmp .lt 8, 3) := by decide +kernel
theorem dX7_lessons_13 : decode cX7_lessons 13 = .ok (.iload_n 2, 1) := by decide +kernel
theorem dX7_lessons_14 : decode cX7_lessons 14 = .ok (.iload_n 1, 1) := by decide +kernel
theorem dX7_lessons_15 : decode cX7_lessons 15 = .ok (.if_icmp .lt 6, 3) := by decide +kernel
theorem dX7_lessons_18 : decode cX7_lessons 18 = .ok (.bipush (-2), 2) := by decide +kernel
theorem dX7_lessons_20 : decode cX7_lessons 20 = .ok (.ireturn, 1) := by decide +kernel
theorem dX7_lessons_21 : decode cX7_lessons 21 = .ok (.aload_n 0, 1) := by decide +kernel
theorem dX7_lessons_22 : decode cX7_lessons 22 = .ok (.invokevirtual 186, 3) := by decide +kernel
theorem dX7_lessons_25 : decode cX7_lessons 25 = .ok (.aload_n 0, 1) := by decide +kernel
theorem dX7_lessons_26 : decode cX7_lessons 26 = .ok (.getfield 51, 3) := by decide +kernel
theorem dX7_lessons_29 : decode cX7_lessons 29 = .ok (.invokevirtual 240, 3) := by decide +kernel
theorem dX7_lessons_32 : decode cX7_lessons 32 = .ok (.iconst 0, 1) := by decide +kernel
theorem dX7_lessons_33 : decode cX7_lessons 33 = .ok (.istore_n 3, 1) := by decide +kernel
theorem dX7_lessons_34 : decode cX7_lessons 34 = .ok (.iload_n 3, 1) := by decide +kernel
theorem dX7_lessons_35 : decode cX7_lessons 35 = .ok (.bipush 12, 2) := by decide +kernel
theorem dX7_lessons_37 : decode cX7_lessons 37 = .ok (.if_icmp .ge 32, 3) := by decide +kernel
theorem dX7_lessons_40 : decode cX7_lessons 40 = .ok (.aload_n 0, 1) := by decide +kernel
theorem dX7_lessons_41 : decode cX7_lessons 41 = .ok (.getfield 16, 3) := by decide +kernel
theorem dX7_lessons_44 : decode cX7_lessons 44 = .ok (.iload_n 3, 1) := by decide +kernel
theorem dX7_lessons_45 : decode cX7_lessons 45 = .ok (.invokevirtual 242, 3) := by decide +kernel
theorem dX7_lessons_48 : decode cX7_lessons 48 = .ok (.ifCond .le 15, 3) := by decide +kernel
theorem dX7_lessons_51 : decode cX7_lessons 51 = .ok (.aload_n 0, 1) := by decide +kernel
theorem dX7_lessons_52 : decode cX7_lessons 52 = .ok (.getfield 51, 3) := by decide +kernel
theorem dX7_lessons_55 : decode cX7_lessons 55 = .ok (.aload_n 0, 1) := by decide +kernel
theorem dX7_lessons_56 : decode cX7_lessons 56 = .ok (.iload_n 3, 1) := by decide +kernel
theorem dX7_lessons_57 : decode cX7_lessons 57 = .ok (.invokevirtual 193, 3) := by decide +kernel
theorem dX7_lessons_60 : decode cX7_lessons 60 = .ok (.invokevirtual 245, 3) := by decide +kernel
theorem dX7_lessons_63 : decode cX7_lessons 63 = .ok (.iinc 3 1, 3) := by decide +kernel
theorem dX7_lessons_66 : decode cX7_lessons 66 = .ok (.goto (-32), 3) := by decide +kernel
theorem dX7_lessons_69 : decode cX7_lessons 69 = .ok (.aload_n 0, 1) := by decide +kernel
theorem dX7_lessons_70 : decode cX7_lessons 70 = .ok (.getfield 51, 3) := by decide +kernel
theorem dX7_lessons_73 : decode cX7_lessons 73 = .ok (.iload_n 1, 1) := by decide +kernel
theorem dX7_lessons_74 : decode cX7_lessons 74 = .ok (.aload_n 0, 1) := by decide +kernel
theorem dX7_lessons_75 : decode cX7_lessons 75 = .ok (.getfield 37, 3) := by decide +kernel
theorem dX7_lessons_78 : decode cX7_lessons 78 = .ok (.invokevirtual 248, 3) := by decide +kernel
theorem dX7_lessons_81 : decode cX7_lessons 81 = .ok (.iload_n 2, 1) := by decide +kernel
theorem dX7_lessons_82 : decode cX7_lessons 82 = .ok (.iconst (-1), 1) := by decide +kernel
theorem dX7_lessons_83 : decode cX7_lessons 83 = .ok (.if_icmp .ne 13, 3) := by decide +kernel
theorem dX7_lessons_86 : decode cX7_lessons 86 = .ok (.aload_n 0, 1) := by decide +kernel
theorem dX7_lessons_87 : decode cX7_lessons 87 = .ok (.getfield 51, 3) := by decide +kernel
theorem dX7_lessons_90 : decode cX7_lessons 90 = .ok (.getfield 252, 3) := by decide +kernel
theorem dX7_lessons_93 : decode cX7_lessons 93 = .ok (.goto 12, 3) := by decide +kernel
theorem dX7_lessons_96 : decode cX7_lessons 96 = .ok (.aload_n 0, 1) := by decide +kernel
theorem dX7_lessons_97 : decode cX7_lessons 97 = .ok (.getfield 51, 3) := by decide +kernel
theorem dX7_lessons_100 : decode cX7_lessons 100 = .ok (.getfield 255, 3) := by decide +kernel
theorem dX7_lessons_103 : decode cX7_lessons 103 = .ok (.iload_n 2, 1) := by decide +kernel
theorem dX7_lessons_104 : decode cX7_lessons 104 = .ok (.iaload, 1) := by decide +kernel
theorem dX7_lessons_105 : decode cX7_lessons 105 = .ok (.ireturn, 1) := by decide +kernel
theorem dX7_sheet_0 : decode cX7_sheet 0 = .ok (.iload_n 1, 1) := by decide +kernel
theorem dX7_sheet_1 : decode cX7_sheet 1 = .ok (.iconst 4, 1) := by decide +kernel
theorem dX7_sheet_2 : decode cX7_sheet 2 = .ok (.invokestatic 62, 3) := by decide +kernel
theorem dX7_sheet_5 : decode cX7_sheet 5 = .ok (.ifCond .eq 17, 3) := by decide +kernel
theorem dX7_sheet_8 : decode cX7_sheet 8 = .ok (.iload_n 2, 1) := by decide +kernel
theorem dX7_sheet_9 : decode cX7_sheet 9 = .ok (.iconst 3, 1) := by decide +kernel
theorem dX7_sheet_10 : decode cX7_sheet 10 = .ok (.invokestatic 62, 3) := by decide +kernel
theorem dX7_sheet_13 : decode cX7_sheet 13 = .ok (.ifCond .eq 9, 3) := by decide +kernel
theorem dX7_sheet_16 : decode cX7_sheet 16 = .ok (.iload_n 3, 1) := by decide +kernel
theorem dX7_sheet_17 : decode cX7_sheet 17 = .ok (.bipush 60, 2) := by decide +kernel
theorem dX7_sheet_19 : decode cX7_sheet 19 = .ok (.if_icmp .le 6, 3) := by decide +kernel
theorem dX7_sheet_22 : decode cX7_sheet 22 = .ok (.bipush (-2), 2) := by decide +kernel
theorem dX7_sheet_24 : decode cX7_sheet 24 = .ok (.ireturn, 1) := by decide +kernel
theorem dX7_sheet_25 : decode cX7_sheet 25 = .ok (.iload_n 3, 1) := by decide +kernel
theorem dX7_sheet_26 : decode cX7_sheet 26 = .ok (.ifCond .ge 9, 3) := by decide +kernel
theorem dX7_sheet_29 : decode cX7_sheet 29 = .ok (.aload_n 0, 1) := by decide +kernel
theorem dX7_sheet_30 : decode cX7_sheet 30 = .ok (.iconst 5, 1) := by decide +kernel
theorem dX7_sheet_31 : decode cX7_sheet 31 = .ok (.invokevirtual 100, 3) := by decide +kernel
theorem dX7_sheet_34 : decode cX7_sheet 34 = .ok (.ireturn, 1) := by decide +kernel
theorem dX7_sheet_35 : decode cX7_sheet 35 = .ok (.aload_n 0, 1) := by decide +kernel
theorem dX7_sheet_36 : decode cX7_sheet 36 = .ok (.getfield 57, 3) := by decide +kernel
theorem dX7_sheet_39 : decode cX7_sheet 39 = .ok (.iload_n 1, 1) := by decide +kernel
theorem dX7_sheet_40 : decode cX7_sheet 40 = .ok (.aaload, 1) := by decide +kernel
theorem dX7_sheet_41 : decode cX7_sheet 41 = .ok (.iload_n 2, 1) := by decide +kernel
theorem dX7_sheet_42 : decode cX7_sheet 42 = .ok (.iload_n 3, 1) := by decide +kernel
theorem dX7_sheet_43 : decode cX7_sheet 43 = .ok (.invokevirtual 256, 3) := by decide +kernel
theorem dX7_sheet_46 : decode cX7_sheet 46 = .ok (.iload_n 3, 1) := by decide +kernel
theorem dX7_sheet_47 : decode cX7_sheet 47 = .ok (.ireturn, 1) := by decide +kernel
theorem dX7_lose_0 : decode cX7_lose 0 = .ok (.iload_n 1, 1) := by decide +kernel
theorem dX7_lose_1 : decode cX7_lose 1 = .ok (.iconst 4, 1) := by decide +kernel
theorem dX7_lose_2 : decode cX7_lose 2 = .ok (.invokestatic 62, 3) := by decide +kernel
theorem dX7_lose_5 : decode cX7_lose 5 = .ok (.ifCond .ne 6, 3) := by decide +kernel
theorem dX7_lose_8 : decode cX7_lose 8 = .ok (.bipush (-2), 2) := by decide +kernel
theorem dX7_lose_10 : decode cX7_lose 10 = .ok (.ireturn, 1) := by decide +kernel
theorem dX7_lose_11 : decode cX7_lose 11 = .ok (.aload_n 0, 1) := by decide +kernel
theorem dX7_lose_12 : decode cX7_lose 12 = .ok (.getfield 57, 3) := by decide +kernel
theorem dX7_lose_15 : decode cX7_lose 15 = .ok (.iload_n 1, 1) := by decide +kernel
theorem dX7_lose_16 : decode cX7_lose 16 = .ok (.aaload, 1) := by decide +kernel
theorem dX7_lose_17 : decode cX7_lose 17 = .ok (.getfield 97, 3) := by decide +kernel
theorem dX7_lose_20 : decode cX7_lose 20 = .ok (.ifCond .eq 9, 3) := by decide +kernel
theorem dX7_lose_23 : decode cX7_lose 23 = .ok (.aload_n 0, 1) := by decide +kernel
theorem dX7_lose_24 : decode cX7_lose 24 = .ok (.iconst 1, 1) := by decide +kernel
theorem dX7_lose_25 : decode cX7_lose 25 = .ok (.invokevirtual 100, 3) := by decide +kernel
theorem dX7_lose_28 : decode cX7_lose 28 = .ok (.ireturn, 1) := by decide +kernel
theorem dX7_lose_29 : decode cX7_lose 29 = .ok (.aload_n 0, 1) := by decide +kernel
theorem dX7_lose_30 : decode cX7_lose 30 = .ok (.getfield 57, 3) := by decide +kernel
theorem dX7_lose_33 : decode cX7_lose 33 = .ok (.iload_n 1, 1) := by decide +kernel
theorem dX7_lose_34 : decode cX7_lose 34 = .ok (.aaload, 1) := by decide +kernel
theorem dX7_lose_35 : decode cX7_lose 35 = .ok (.iconst 1, 1) := by decide +kernel
theorem dX7_lose_36 : decode cX7_lose 36 = .ok (.putfield 97, 3) := by decide +kernel
theorem dX7_lose_39 : decode cX7_lose 39 = .ok (.aload_n 0, 1) := by decide +kernel
theorem dX7_lose_40 : decode cX7_lose 40 = .ok (.getfield 57, 3) := by decide +kernel
theorem dX7_lose_43 : decode cX7_lose 43 = .ok (.iload_n 1, 1) := by decide +kernel
theorem dX7_lose_44 : decode cX7_lose 44 = .ok (.aaload, 1) := by decide +kernel
theorem dX7_lose_45 : decode cX7_lose 45 = .ok (.getfield 104, 3) := by decide +kernel
theorem dX7_lose_48 : decode cX7_lose 48 = .ok (.ireturn, 1) := by decide +kernel
theorem dX7_lay_0 : decode cX7_lay 0 = .ok (.iload_n 1, 1) := by decide +kernel
theorem dX7_lay_1 : decode cX7_lay 1 = .ok (.iconst 4, 1) := by decide +kernel
theorem dX7_lay_2 : decode cX7_lay 2 = .ok (.invokestatic 62, 3) := by decide +kernel
theorem dX7_lay_5 : decode cX7_lay 5 = .ok (.ifCond .eq 11, 3) := by decide +kernel
theorem dX7_lay_8 : decode cX7_lay 8 = .ok (.iload_n 2, 1) := by decide +kernel
theorem dX7_lay_9 : decode cX7_lay 9 = .ok (.iconst 3, 1) := by decide +kernel
theorem dX7_lay_10 : decode cX7_lay 10 = .ok (.invokestatic 62, 3) := by decide +kernel
theorem dX7_lay_13 : decode cX7_lay 13 = .ok (.ifCond .ne 6, 3) := by decide +kernel
theorem dX7_lay_16 : decode cX7_lay 16 = .ok (.bipush (-2), 2) := by decide +kernel
theorem dX7_lay_18 : decode cX7_lay 18 = .ok (.ireturn, 1) := by decide +kernel
theorem dX7_lay_19 : decode cX7_lay 19 = .ok (.aload_n 0, 1) := by decide +kernel
theorem dX7_lay_20 : decode cX7_lay 20 = .ok (.getfield 57, 3) := by decide +kernel
theorem dX7_lay_23 : decode cX7_lay 23 = .ok (.iload_n 1, 1) := by decide +kernel
theorem dX7_lay_24 : decode cX7_lay 24 = .ok (.aaload, 1) := by decide +kernel
theorem dX7_lay_25 : decode cX7_lay 25 = .ok (.iload_n 2, 1) := by decide +kernel
theorem dX7_lay_26 : decode cX7_lay 26 = .ok (.iload_n 3, 1) := by decide +kernel
theorem dX7_lay_27 : decode cX7_lay 27 = .ok (.invokevirtual 259, 3) := by decide +kernel
theorem dX7_lay_30 : decode cX7_lay 30 = .ok (.istore 5, 2) := by decide +kernel
theorem dX7_lay_32 : decode cX7_lay 32 = .ok (.iload 5, 2) := by decide +kernel
theorem dX7_lay_34 : decode cX7_lay 34 = .ok (.ifCond .eq 10, 3) := by decide +kernel
theorem dX7_lay_37 : decode cX7_lay 37 = .ok (.aload_n 0, 1) := by decide +kernel
theorem dX7_lay_38 : decode cX7_lay 38 = .ok (.iload 5, 2) := by decide +kernel
theorem dX7_lay_40 : decode cX7_lay 40 = .ok (.invokevirtual 100, 3) := by decide +kernel
theorem dX7_lay_43 : decode cX7_lay 43 = .ok (.ireturn, 1) := by decide +kernel
theorem dX7_lay_44 : decode cX7_lay 44 = .ok (.aload_n 0, 1) := by decide +kernel
theorem dX7_lay_45 : decode cX7_lay 45 = .ok (.getfield 57, 3) := by decide +kernel
theorem dX7_lay_48 : decode cX7_lay 48 = .ok (.iload_n 1, 1) := by decide +kernel
theorem dX7_lay_49 : decode cX7_lay 49 = .ok (.aaload, 1) := by decide +kernel
theorem dX7_lay_50 : decode cX7_lay 50 = .ok (.iload_n 3, 1) := by decide +kernel
theorem dX7_lay_51 : decode cX7_lay 51 = .ok (.iload 4, 2) := by decide +kernel
theorem dX7_lay_53 : decode cX7_lay 53 = .ok (.invokevirtual 262, 3) := by decide +kernel
theorem dX7_lay_56 : decode cX7_lay 56 = .ok (.iconst 1, 1) := by decide +kernel
theorem dX7_lay_57 : decode cX7_lay 57 = .ok (.ireturn, 1) := by decide +kernel
theorem dX7_get_0 : decode cX7_get 0 = .ok (.iload_n 1, 1) := by decide +kernel
theorem dX7_get_1 : decode cX7_get 1 = .ok (.iconst 4, 1) := by decide +kernel
theorem dX7_get_2 : decode cX7_get 2 = .ok (.invokestatic 62, 3) := by decide +kernel
theorem dX7_get_5 : decode cX7_get 5 = .ok (.ifCond .eq 11, 3) := by decide +kernel
theorem dX7_get_8 : decode cX7_get 8 = .ok (.iload_n 2, 1) := by decide +kernel
theorem dX7_get_9 : decode cX7_get 9 = .ok (.iconst 3, 1) := by decide +kernel
theorem dX7_get_10 : decode cX7_get 10 = .ok (.invokestatic 62, 3) := by decide +kernel
theorem dX7_get_13 : decode cX7_get 13 = .ok (.ifCond .ne 7, 3) := by decide +kernel
theorem dX7_get_16 : decode cX7_get 16 = .ok (.ldc_w 265, 3) := by decide +kernel
theorem dX7_get_19 : decode cX7_get 19 = .ok (.ireturn, 1) := by decide +kernel
theorem dX7_get_20 : decode cX7_get 20 = .ok (.aload_n 0, 1) := by decide +kernel
theorem dX7_get_21 : decode cX7_get 21 = .ok (.getfield 57, 3) := by decide +kernel
theorem dX7_get_24 : decode cX7_get 24 = .ok (.iload_n 1, 1) := by decide +kernel
theorem dX7_get_25 : decode cX7_get 25 = .ok (.aaload, 1) := by decide +kernel
theorem dX7_get_26 : decode cX7_get 26 = .ok (.iload_n 2, 1) := by decide +kernel
theorem dX7_get_27 : decode cX7_get 27 = .ok (.iload_n 3, 1) := by decide +kernel
theorem dX7_get_28 : decode cX7_get 28 = .ok (.invokevirtual 259, 3) := by decide +kernel
theorem dX7_get_31 : decode cX7_get 31 = .ok (.istore 4, 2) := by decide +kernel
theorem dX7_get_33 : decode cX7_get 33 = .ok (.iload 4, 2) := by decide +kernel
theorem dX7_get_35 : decode cX7_get 35 = .ok (.ifCond .eq 13, 3) := by decide +kernel
theorem dX7_get_38 : decode cX7_get 38 = .ok (.aload_n 0, 1) := by decide +kernel
theorem dX7_get_39 : decode cX7_get 39 = .ok (.iload 4, 2) := by decide +kernel
theorem dX7_get_41 : decode cX7_get 41 = .ok (.putfield 266, 3) := by decide +kernel
theorem dX7_get_44 : decode cX7_get 44 = .ok (.ldc_w 265, 3) := by decide +kernel
theorem dX7_get_47 : decode cX7_get 47 = .ok (.ireturn, 1) := by decide +kernel
theorem dX7_get_48 : decode cX7_get 48 = .ok (.aload_n 0, 1) := by decide +kernel
end
section
theorem dX7_get_49 : decode cX7_get 49 = .ok (.getfield 57, 3) := by decide +kernel
theorem dX7_get_52 : decode cX7_get 52 = .ok (.iload_n 1, 1) := by decide +kernel
theorem dX7_get_53 : decode cX7_get 53 = .ok (.aaload, 1) := by decide +kernel
theorem dX7_get_54 : decode cX7_get 54 = .ok (.getfield 113, 3) := by decide +kernel
theorem dX7_get_57 : decode cX7_get 57 = .ok (.iload_n 3, 1) := by decide +kernel
theorem dX7_get_58 : decode cX7_get 58 = .ok (.iaload, 1) := by decide +kernel
theorem dX7_get_59 : decode cX7_get 59 = .ok (.ireturn, 1) := by decide +kernel
theorem dX7_copy_0 : decode cX7_copy 0 = .ok (.iload_n 1, 1) := by decide +kernel
theorem dX7_copy_1 : decode cX7_copy 1 = .ok (.iconst 4, 1) := by decide +kernel
theorem dX7_copy_2 : decode cX7_copy 2 = .ok (.invokestatic 62, 3) := by decide +kernel
theorem dX7_copy_5 : decode cX7_copy 5 = .ok (.ifCond .eq 11, 3) := by decide +kernel
theorem dX7_copy_8 : decode cX7_copy 8 = .ok (.iload_n 3, 1) := by decide +kernel
theorem dX7_copy_9 : decode cX7_copy 9 = .ok (.iconst 4, 1) := by decide +kernel
theorem dX7_copy_10 : decode cX7_copy 10 = .ok (.invokestatic 62, 3) := by decide +kernel
theorem dX7_copy_13 : decode cX7_copy 13 = .ok (.ifCond .ne 6, 3) := by decide +kernel
theorem dX7_copy_16 : decode cX7_copy 16 = .ok (.bipush (-2), 2) := by decide +kernel
theorem dX7_copy_18 : decode cX7_copy 18 = .ok (.ireturn, 1) := by decide +kernel
theorem dX7_copy_19 : decode cX7_copy 19 = .ok (.aload_n 0, 1) := by decide +kernel
theorem dX7_copy_20 : decode cX7_copy 20 = .ok (.getfield 57, 3) := by decide +kernel
theorem dX7_copy_23 : decode cX7_copy 23 = .ok (.iload_n 1, 1) := by decide +kernel
theorem dX7_copy_24 : decode cX7_copy 24 = .ok (.aaload, 1) := by decide +kernel
theorem dX7_copy_25 : decode cX7_copy 25 = .ok (.astore 6, 2) := by decide +kernel
theorem dX7_copy_27 : decode cX7_copy 27 = .ok (.aload_n 0, 1) := by decide +kernel
theorem dX7_copy_28 : decode cX7_copy 28 = .ok (.getfield 57, 3) := by decide +kernel
theorem dX7_copy_31 : decode cX7_copy 31 = .ok (.iload_n 3, 1) := by decide +kernel
theorem dX7_copy_32 : decode cX7_copy 32 = .ok (.aaload, 1) := by decide +kernel
theorem dX7_copy_33 : decode cX7_copy 33 = .ok (.astore 7, 2) := by decide +kernel
theorem dX7_copy_35 : decode cX7_copy 35 = .ok (.aload 6, 2) := by decide +kernel
theorem dX7_copy_37 : decode cX7_copy 37 = .ok (.getfield 97, 3) := by decide +kernel
theorem dX7_copy_40 : decode cX7_copy 40 = .ok (.ifCond .ne 11, 3) := by decide +kernel
theorem dX7_copy_43 : decode cX7_copy 43 = .ok (.aload 7, 2) := by decide +kernel
theorem dX7_copy_45 : decode cX7_copy 45 = .ok (.getfield 97, 3) := by decide +kernel
theorem dX7_copy_48 : decode cX7_copy 48 = .ok (.ifCond .eq 9, 3) := by decide +kernel
theorem dX7_copy_51 : decode cX7_copy 51 = .ok (.aload_n 0, 1) := by decide +kernel
theorem dX7_copy_52 : decode cX7_copy 52 = .ok (.iconst 1, 1) := by decide +kernel
theorem dX7_copy_53 : decode cX7_copy 53 = .ok (.invokevirtual 100, 3) := by decide +kernel
theorem dX7_copy_56 : decode cX7_copy 56 = .ok (.ireturn, 1) := by decide +kernel
theorem dX7_copy_57 : decode cX7_copy 57 = .ok (.aload 6, 2) := by decide +kernel
theorem dX7_copy_59 : decode cX7_copy 59 = .ok (.getfield 269, 3) := by decide +kernel
theorem dX7_copy_62 : decode cX7_copy 62 = .ok (.aload 7, 2) := by decide +kernel
theorem dX7_copy_64 : decode cX7_copy 64 = .ok (.getfield 269, 3) := by decide +kernel
theorem dX7_copy_67 : decode cX7_copy 67 = .ok (.if_icmp .eq 9, 3) := by decide +kernel
theorem dX7_copy_70 : decode cX7_copy 70 = .ok (.aload_n 0, 1) := by decide +kernel
theorem dX7_copy_71 : decode cX7_copy 71 = .ok (.iconst 4, 1) := by decide +kernel
theorem dX7_copy_72 : decode cX7_copy 72 = .ok (.invokevirtual 100, 3) := by decide +kernel
theorem dX7_copy_75 : decode cX7_copy 75 = .ok (.ireturn, 1) := by decide +kernel
theorem dX7_copy_76 : decode cX7_copy 76 = .ok (.aload 6, 2) := by decide +kernel
theorem dX7_copy_78 : decode cX7_copy 78 = .ok (.iload_n 2, 1) := by decide +kernel
theorem dX7_copy_79 : decode cX7_copy 79 = .ok (.iload 5, 2) := by decide +kernel
theorem dX7_copy_81 : decode cX7_copy 81 = .ok (.invokevirtual 272, 3) := by decide +kernel
theorem dX7_copy_84 : decode cX7_copy 84 = .ok (.ifCond .eq 15, 3) := by decide +kernel
theorem dX7_copy_87 : decode cX7_copy 87 = .ok (.aload 7, 2) := by decide +kernel
theorem dX7_copy_89 : decode cX7_copy 89 = .ok (.iload 4, 2) := by decide +kernel
theorem dX7_copy_91 : decode cX7_copy 91 = .ok (.iload 5, 2) := by decide +kernel
theorem dX7_copy_93 : decode cX7_copy 93 = .ok (.invokevirtual 272, 3) := by decide +kernel
theorem dX7_copy_96 : decode cX7_copy 96 = .ok (.ifCond .ne 9, 3) := by decide +kernel
theorem dX7_copy_99 : decode cX7_copy 99 = .ok (.aload_n 0, 1) := by decide +kernel
theorem dX7_copy_100 : decode cX7_copy 100 = .ok (.iconst 2, 1) := by decide +kernel
theorem dX7_copy_101 : decode cX7_copy 101 = .ok (.invokevirtual 100, 3) := by decide +kernel
theorem dX7_copy_104 : decode cX7_copy 104 = .ok (.ireturn, 1) := by decide +kernel
theorem dX7_copy_105 : decode cX7_copy 105 = .ok (.aload 6, 2) := by decide +kernel
theorem dX7_copy_107 : decode cX7_copy 107 = .ok (.getfield 113, 3) := by decide +kernel
theorem dX7_copy_110 : decode cX7_copy 110 = .ok (.iload_n 2, 1) := by decide +kernel
theorem dX7_copy_111 : decode cX7_copy 111 = .ok (.aload 7, 2) := by decide +kernel
theorem dX7_copy_113 : decode cX7_copy 113 = .ok (.getfield 113, 3) := by decide +kernel
theorem dX7_copy_116 : decode cX7_copy 116 = .ok (.iload 4, 2) := by decide +kernel
theorem dX7_copy_118 : decode cX7_copy 118 = .ok (.iload 5, 2) := by decide +kernel
theorem dX7_copy_120 : decode cX7_copy 120 = .ok (.invokestatic 275, 3) := by decide +kernel
theorem dX7_copy_123 : decode cX7_copy 123 = .ok (.iconst 1, 1) := by decide +kernel
theorem dX7_copy_124 : decode cX7_copy 124 = .ok (.ireturn, 1) := by decide +kernel
theorem dX7_write_0 : decode cX7_write 0 = .ok (.iload_n 1, 1) := by decide +kernel
theorem dX7_write_1 : decode cX7_write 1 = .ok (.iconst 4, 1) := by decide +kernel
theorem dX7_write_2 : decode cX7_write 2 = .ok (.invokestatic 62, 3) := by decide +kernel
theorem dX7_write_5 : decode cX7_write 5 = .ok (.ifCond .ne 6, 3) := by decide +kernel
theorem dX7_write_8 : decode cX7_write 8 = .ok (.bipush (-2), 2) := by decide +kernel
theorem dX7_write_10 : decode cX7_write 10 = .ok (.ireturn, 1) := by decide +kernel
theorem dX7_write_11 : decode cX7_write 11 = .ok (.aload_n 0, 1) := by decide +kernel
theorem dX7_write_12 : decode cX7_write 12 = .ok (.getfield 57, 3) := by decide +kernel
theorem dX7_write_15 : decode cX7_write 15 = .ok (.iload_n 1, 1) := by decide +kernel
theorem dX7_write_16 : decode cX7_write 16 = .ok (.aaload, 1) := by decide +kernel
theorem dX7_write_17 : decode cX7_write 17 = .ok (.astore_n 2, 1) := by decide +kernel
theorem dX7_write_18 : decode cX7_write 18 = .ok (.aload_n 2, 1) := by decide +kernel
theorem dX7_write_19 : decode cX7_write 19 = .ok (.getfield 97, 3) := by decide +kernel
theorem dX7_write_22 : decode cX7_write 22 = .ok (.ifCond .eq 9, 3) := by decide +kernel
theorem dX7_write_25 : decode cX7_write 25 = .ok (.aload_n 0, 1) := by decide +kernel
theorem dX7_write_26 : decode cX7_write 26 = .ok (.iconst 1, 1) := by decide +kernel
theorem dX7_write_27 : decode cX7_write 27 = .ok (.invokevirtual 100, 3) := by decide +kernel
theorem dX7_write_30 : decode cX7_write 30 = .ok (.ireturn, 1) := by decide +kernel
theorem dX7_write_31 : decode cX7_write 31 = .ok (.aload_n 0, 1) := by decide +kernel
theorem dX7_write_32 : decode cX7_write 32 = .ok (.invokevirtual 186, 3) := by decide +kernel
theorem dX7_write_35 : decode cX7_write 35 = .ok (.bipush 12, 2) := by decide +kernel
theorem dX7_write_37 : decode cX7_write 37 = .ok (.aload_n 2, 1) := by decide +kernel
theorem dX7_write_38 : decode cX7_write 38 = .ok (.getfield 104, 3) := by decide +kernel
theorem dX7_write_41 : decode cX7_write 41 = .ok (.invokestatic 107, 3) := by decide +kernel
theorem dX7_write_44 : decode cX7_write 44 = .ok (.istore_n 3, 1) := by decide +kernel
theorem dX7_write_45 : decode cX7_write 45 = .ok (.iconst 0, 1) := by decide +kernel
theorem dX7_write_46 : decode cX7_write 46 = .ok (.istore 4, 2) := by decide +kernel
theorem dX7_write_48 : decode cX7_write 48 = .ok (.iload 4, 2) := by decide +kernel
theorem dX7_write_50 : decode cX7_write 50 = .ok (.iload_n 3, 1) := by decide +kernel
theorem dX7_write_51 : decode cX7_write 51 = .ok (.if_icmp .ge 21, 3) := by decide +kernel
theorem dX7_write_54 : decode cX7_write 54 = .ok (.aload_n 2, 1) := by decide +kernel
theorem dX7_write_55 : decode cX7_write 55 = .ok (.iload 4, 2) := by decide +kernel
theorem dX7_write_57 : decode cX7_write 57 = .ok (.aload_n 0, 1) := by decide +kernel
theorem dX7_write_58 : decode cX7_write 58 = .ok (.iload 4, 2) := by decide +kernel
theorem dX7_write_60 : decode cX7_write 60 = .ok (.invokevirtual 193, 3) := by decide +kernel
theorem dX7_write_63 : decode cX7_write 63 = .ok (.invokevirtual 262, 3) := by decide +kernel
theorem dX7_write_66 : decode cX7_write 66 = .ok (.iinc 4 1, 3) := by decide +kernel
theorem dX7_write_69 : decode cX7_write 69 = .ok (.goto (-21), 3) := by decide +kernel
theorem dX7_write_72 : decode cX7_write 72 = .ok (.iload_n 3, 1) := by decide +kernel
theorem dX7_write_73 : decode cX7_write 73 = .ok (.ireturn, 1) := by decide +kernel
theorem dX7_count_0 : decode cX7_count 0 = .ok (.iload_n 1, 1) := by decide +kernel
theorem dX7_count_1 : decode cX7_count 1 = .ok (.tableswitch 119 0 8 #[51, 59, 67, 75, 83, 91, 99, 107, 114], 51) := by decide +kernel
theorem dX7_count_52 : decode cX7_count 52 = .ok (.aload_n 0, 1) := by decide +kernel
theorem dX7_count_53 : decode cX7_count 53 = .ok (.getfield 16, 3) := by decide +kernel
theorem dX7_count_56 : decode cX7_count 56 = .ok (.getfield 183, 3) := by decide +kernel
theorem dX7_count_59 : decode cX7_count 59 = .ok (.ireturn, 1) := by decide +kernel
theorem dX7_count_60 : decode cX7_count 60 = .ok (.aload_n 0, 1) := by decide +kernel
theorem dX7_count_61 : decode cX7_count 61 = .ok (.getfield 16, 3) := by decide +kernel
theorem dX7_count_64 : decode cX7_count 64 = .ok (.getfield 93, 3) := by decide +kernel
theorem dX7_count_67 : decode cX7_count 67 = .ok (.ireturn, 1) := by decide +kernel
theorem dX7_count_68 : decode cX7_count 68 = .ok (.aload_n 0, 1) := by decide +kernel
theorem dX7_count_69 : decode cX7_count 69 = .ok (.getfield 16, 3) := by decide +kernel
theorem dX7_count_72 : decode cX7_count 72 = .ok (.invokevirtual 169, 3) := by decide +kernel
theorem dX7_count_75 : decode cX7_count 75 = .ok (.ireturn, 1) := by decide +kernel
theorem dX7_count_76 : decode cX7_count 76 = .ok (.aload_n 0, 1) := by decide +kernel
theorem dX7_count_77 : decode cX7_count 77 = .ok (.getfield 16, 3) := by decide +kernel
theorem dX7_count_80 : decode cX7_count 80 = .ok (.invokevirtual 281, 3) := by decide +kernel
theorem dX7_count_83 : decode cX7_count 83 = .ok (.ireturn, 1) := by decide +kernel
theorem dX7_count_84 : decode cX7_count 84 = .ok (.aload_n 0, 1) := by decide +kernel
theorem dX7_count_85 : decode cX7_count 85 = .ok (.getfield 16, 3) := by decide +kernel
theorem dX7_count_88 : decode cX7_count 88 = .ok (.invokevirtual 284, 3) := by decide +kernel
theorem dX7_count_91 : decode cX7_count 91 = .ok (.ireturn, 1) := by decide +kernel
theorem dX7_count_92 : decode cX7_count 92 = .ok (.aload_n 0, 1) := by decide +kernel
theorem dX7_count_93 : decode cX7_count 93 = .ok (.getfield 23, 3) := by decide +kernel
theorem dX7_count_96 : decode cX7_count 96 = .ok (.getfield 119, 3) := by decide +kernel
theorem dX7_count_99 : decode cX7_count 99 = .ok (.ireturn, 1) := by decide +kernel
theorem dX7_count_100 : decode cX7_count 100 = .ok (.aload_n 0, 1) := by decide +kernel
theorem dX7_count_101 : decode cX7_count 101 = .ok (.getfield 23, 3) := by decide +kernel
theorem dX7_count_104 : decode cX7_count 104 = .ok (.getfield 287, 3) := by decide +kernel
theorem dX7_count_107 : decode cX7_count 107 = .ok (.ireturn, 1) := by decide +kernel
theorem dX7_count_108 : decode cX7_count 108 = .ok (.aload_n 0, 1) := by decide +kernel
theorem dX7_count_109 : decode cX7_count 109 = .ok (.getfield 9, 3) := by decide +kernel
theorem dX7_count_112 : decode cX7_count 112 = .ok (.iconst 2, 1) := by decide +kernel
theorem dX7_count_113 : decode cX7_count 113 = .ok (.iaload, 1) := by decide +kernel
theorem dX7_count_114 : decode cX7_count 114 = .ok (.ireturn, 1) := by decide +kernel
theorem dX7_count_115 : decode cX7_count 115 = .ok (.aload_n 0, 1) := by decide +kernel
theorem dX7_count_116 : decode cX7_count 116 = .ok (.getfield 266, 3) := by decide +kernel
theorem dX7_count_119 : decode cX7_count 119 = .ok (.ireturn, 1) := by decide +kernel
theorem dX7_count_120 : decode cX7_count 120 = .ok (.bipush (-2), 2) := by decide +kernel
theorem dX7_count_122 : decode cX7_count 122 = .ok (.ireturn, 1) := by decide +kernel
theorem dX7_digest_0 : decode cX7_digest 0 = .ok (.ldc2_w 290, 3) := by decide +kernel
theorem dX7_digest_3 : decode cX7_digest 3 = .ok (.lstore_n 1, 1) := by decide +kernel
theorem dX7_digest_4 : decode cX7_digest 4 = .ok (.iconst 0, 1) := by decide +kernel
theorem dX7_digest_5 : decode cX7_digest 5 = .ok (.istore_n 3, 1) := by decide +kernel
theorem dX7_digest_6 : decode cX7_digest 6 = .ok (.iload_n 3, 1) := by decide +kernel
theorem dX7_digest_7 : decode cX7_digest 7 = .ok (.bipush 7, 2) := by decide +kernel
theorem dX7_digest_9 : decode cX7_digest 9 = .ok (.if_icmp .gt 20, 3) := by decide +kernel
theorem dX7_digest_12 : decode cX7_digest 12 = .ok (.lload_n 1, 1) := by decide +kernel
theorem dX7_digest_13 : decode cX7_digest 13 = .ok (.aload_n 0, 1) := by decide +kernel
theorem dX7_digest_14 : decode cX7_digest 14 = .ok (.iload_n 3, 1) := by decide +kernel
theorem dX7_digest_15 : decode cX7_digest 15 = .ok (.invokevirtual 292, 3) := by decide +kernel
theorem dX7_digest_18 : decode cX7_digest 18 = .ok (.i2l, 1) := by decide +kernel
theorem dX7_digest_19 : decode cX7_digest 19 = .ok (.invokestatic 295, 3) := by decide +kernel
theorem dX7_digest_22 : decode cX7_digest 22 = .ok (.lstore_n 1, 1) := by decide +kernel
theorem dX7_digest_23 : decode cX7_digest 23 = .ok (.iinc 3 1, 3) := by decide +kernel
theorem dX7_digest_26 : decode cX7_digest 26 = .ok (.goto (-20), 3) := by decide +kernel
theorem dX7_digest_29 : decode cX7_digest 29 = .ok (.lload_n 1, 1) := by decide +kernel
theorem dX7_digest_30 : decode cX7_digest 30 = .ok (.aload_n 0, 1) := by decide +kernel
theorem dX7_digest_31 : decode cX7_digest 31 = .ok (.invokevirtual 299, 3) := by decide +kernel
theorem dX7_digest_34 : decode cX7_digest 34 = .ok (.i2l, 1) := by decide +kernel
theorem dX7_digest_35 : decode cX7_digest 35 = .ok (.invokestatic 295, 3) := by decide +kernel
theorem dX7_digest_38 : decode cX7_digest 38 = .ok (.lstore_n 1, 1) := by decide +kernel
theorem dX7_digest_39 : decode cX7_digest 39 = .ok (.iconst 0, 1) := by decide +kernel
theorem dX7_digest_40 : decode cX7_digest 40 = .ok (.istore_n 3, 1) := by decide +kernel
theorem dX7_digest_41 : decode cX7_digest 41 = .ok (.iload_n 3, 1) := by decide +kernel
theorem dX7_digest_42 : decode cX7_digest 42 = .ok (.bipush 12, 2) := by decide +kernel
theorem dX7_digest_44 : decode cX7_digest 44 = .ok (.if_icmp .ge 16, 3) := by decide +kernel
theorem dX7_digest_47 : decode cX7_digest 47 = .ok (.aload_n 0, 1) := by decide +kernel
theorem dX7_digest_48 : decode cX7_digest 48 = .ok (.lload_n 1, 1) := by decide +kernel
theorem dX7_digest_49 : decode cX7_digest 49 = .ok (.iload_n 3, 1) := by decide +kernel
theorem dX7_digest_50 : decode cX7_digest 50 = .ok (.invokevirtual 302, 3) := by decide +kernel
theorem dX7_digest_53 : decode cX7_digest 53 = .ok (.lstore_n 1, 1) := by decide +kernel
theorem dX7_digest_54 : decode cX7_digest 54 = .ok (.iinc 3 1, 3) := by decide +kernel
theorem dX7_digest_57 : decode cX7_digest 57 = .ok (.goto (-16), 3) := by decide +kernel
theorem dX7_digest_60 : decode cX7_digest 60 = .ok (.lload_n 1, 1) := by decide +kernel
theorem dX7_digest_61 : decode cX7_digest 61 = .ok (.aload_n 0, 1) := by decide +kernel
theorem dX7_digest_62 : decode cX7_digest 62 = .ok (.iconst 0, 1) := by decide +kernel
theorem dX7_digest_63 : decode cX7_digest 63 = .ok (.invokevirtual 306, 3) := by decide +kernel
theorem dX7_digest_66 : decode cX7_digest 66 = .ok (.i2l, 1) := by decide +kernel
theorem dX7_digest_67 : decode cX7_digest 67 = .ok (.invokestatic 295, 3) := by decide +kernel
theorem dX7_digest_70 : decode cX7_digest 70 = .ok (.aload_n 0, 1) := by decide +kernel
theorem dX7_digest_71 : decode cX7_digest 71 = .ok (.iconst 1, 1) := by decide +kernel
theorem dX7_digest_72 : decode cX7_digest 72 = .ok (.invokevirtual 306, 3) := by decide +kernel
theorem dX7_digest_75 : decode cX7_digest 75 = .ok (.i2l, 1) := by decide +kernel
theorem dX7_digest_76 : decode cX7_digest 76 = .ok (.invokestatic 295, 3) := by decide +kernel
theorem dX7_digest_79 : decode cX7_digest 79 = .ok (.lstore_n 1, 1) := by decide +kernel
theorem dX7_digest_80 : decode cX7_digest 80 = .ok (.iconst 0, 1) := by decide +kernel
theorem dX7_digest_81 : decode cX7_digest 81 = .ok (.istore_n 3, 1) := by decide +kernel
theorem dX7_digest_82 : decode cX7_digest 82 = .ok (.iload_n 3, 1) := by decide +kernel
theorem dX7_digest_83 : decode cX7_digest 83 = .ok (.aload_n 0, 1) := by decide +kernel
theorem dX7_digest_84 : decode cX7_digest 84 = .ok (.getfield 16, 3) := by decide +kernel
theorem dX7_digest_87 : decode cX7_digest 87 = .ok (.getfield 183, 3) := by decide +kernel
theorem dX7_digest_90 : decode cX7_digest 90 = .ok (.if_icmp .ge 16, 3) := by decide +kernel
theorem dX7_digest_93 : decode cX7_digest 93 = .ok (.aload_n 0, 1) := by decide +kernel
theorem dX7_digest_94 : decode cX7_digest 94 = .ok (.lload_n 1, 1) := by decide +kernel
theorem dX7_digest_95 : decode cX7_digest 95 = .ok (.iload_n 3, 1) := by decide +kernel
theorem dX7_digest_96 : decode cX7_digest 96 = .ok (.invokevirtual 309, 3) := by decide +kernel
theorem dX7_digest_99 : decode cX7_digest 99 = .ok (.lstore_n 1, 1) := by decide +kernel
theorem dX7_digest_100 : decode cX7_digest 100 = .ok (.iinc 3 1, 3) := by decide +kernel
theorem dX7_digest_103 : decode cX7_digest 103 = .ok (.goto (-21), 3) := by decide +kernel
theorem dX7_digest_106 : decode cX7_digest 106 = .ok (.iconst 0, 1) := by decide +kernel
theorem dX7_digest_107 : decode cX7_digest 107 = .ok (.istore_n 3, 1) := by decide +kernel
theorem dX7_digest_108 : decode cX7_digest 108 = .ok (.iload_n 3, 1) := by decide +kernel
theorem dX7_digest_109 : decode cX7_digest 109 = .ok (.iconst 2, 1) := by decide +kernel
theorem dX7_digest_110 : decode cX7_digest 110 = .ok (.if_icmp .ge 29, 3) := by decide +kernel
theorem dX7_digest_113 : decode cX7_digest 113 = .ok (.lload_n 1, 1) := by decide +kernel
theorem dX7_digest_114 : decode cX7_digest 114 = .ok (.aload_n 0, 1) := by decide +kernel
theorem dX7_digest_115 : decode cX7_digest 115 = .ok (.iload_n 3, 1) := by decide +kernel
theorem dX7_digest_116 : decode cX7_digest 116 = .ok (.iconst 0, 1) := by decide +kernel
theorem dX7_digest_117 : decode cX7_digest 117 = .ok (.invokevirtual 312, 3) := by decide +kernel
theorem dX7_digest_120 : decode cX7_digest 120 = .ok (.invokestatic 295, 3) := by decide +kernel
theorem dX7_digest_123 : decode cX7_digest 123 = .ok (.aload_n 0, 1) := by decide +kernel
theorem dX7_digest_124 : decode cX7_digest 124 = .ok (.iload_n 3, 1) := by decide +kernel
theorem dX7_digest_125 : decode cX7_digest 125 = .ok (.iconst 1, 1) := by decide +kernel
theorem dX7_digest_126 : decode cX7_digest 126 = .ok (.invokevirtual 312, 3) := by decide +kernel
theorem dX7_digest_129 : decode cX7_digest 129 = .ok (.invokestatic 295, 3) := by decide +kernel
theorem dX7_digest_132 : decode cX7_digest 132 = .ok (.lstore_n 1, 1) := by decide +kernel
theorem dX7_digest_133 : decode cX7_digest 133 = .ok (.iinc 3 1, 3) := by decide +kernel
theorem dX7_digest_136 : decode cX7_digest 136 = .ok (.goto (-28), 3) := by decide +kernel
theorem dX7_digest_139 : decode cX7_digest 139 = .ok (.lload_n 1, 1) := by decide +kernel
theorem dX7_digest_140 : decode cX7_digest 140 = .ok (.aload_n 0, 1) := by decide +kernel
theorem dX7_digest_141 : decode cX7_digest 141 = .ok (.invokevirtual 316, 3) := by decide +kernel
theorem dX7_digest_144 : decode cX7_digest 144 = .ok (.i2l, 1) := by decide +kernel
theorem dX7_digest_145 : decode cX7_digest 145 = .ok (.invokestatic 295, 3) := by decide +kernel
theorem dX7_digest_148 : decode cX7_digest 148 = .ok (.aload_n 0, 1) := by decide +kernel
theorem dX7_digest_149 : decode cX7_digest 149 = .ok (.iconst 0, 1) := by decide +kernel
theorem dX7_digest_150 : decode cX7_digest 150 = .ok (.invokevirtual 319, 3) := by decide +kernel
theorem dX7_digest_153 : decode cX7_digest 153 = .ok (.i2l, 1) := by decide +kernel
theorem dX7_digest_154 : decode cX7_digest 154 = .ok (.invokestatic 295, 3) := by decide +kernel
theorem dX7_digest_157 : decode cX7_digest 157 = .ok (.aload_n 0, 1) := by decide +kernel
theorem dX7_digest_158 : decode cX7_digest 158 = .ok (.iconst 1, 1) := by decide +kernel
theorem dX7_digest_159 : decode cX7_digest 159 = .ok (.invokevirtual 319, 3) := by decide +kernel
theorem dX7_digest_162 : decode cX7_digest 162 = .ok (.i2l, 1) := by decide +kernel
theorem dX7_digest_163 : decode cX7_digest 163 = .ok (.invokestatic 295, 3) := by decide +kernel
theorem dX7_digest_166 : decode cX7_digest 166 = .ok (.lstore_n 1, 1) := by decide +kernel
theorem dX7_digest_167 : decode cX7_digest 167 = .ok (.lload_n 1, 1) := by decide +kernel
theorem dX7_digest_168 : decode cX7_digest 168 = .ok (.aload_n 0, 1) := by decide +kernel
theorem dX7_digest_169 : decode cX7_digest 169 = .ok (.iconst (-1), 1) := by decide +kernel
theorem dX7_digest_170 : decode cX7_digest 170 = .ok (.invokevirtual 322, 3) := by decide +kernel
theorem dX7_digest_173 : decode cX7_digest 173 = .ok (.i2l, 1) := by decide +kernel
theorem dX7_digest_174 : decode cX7_digest 174 = .ok (.invokestatic 295, 3) := by decide +kernel
theorem dX7_digest_177 : decode cX7_digest 177 = .ok (.aload_n 0, 1) := by decide +kernel
theorem dX7_digest_178 : decode cX7_digest 178 = .ok (.invokevirtual 325, 3) := by decide +kernel
theorem dX7_digest_181 : decode cX7_digest 181 = .ok (.i2l, 1) := by decide +kernel
theorem dX7_digest_182 : decode cX7_digest 182 = .ok (.invokestatic 295, 3) := by decide +kernel
theorem dX7_digest_185 : decode cX7_digest 185 = .ok (.lstore_n 1, 1) := by decide +kernel
theorem dX7_digest_186 : decode cX7_digest 186 = .ok (.lload_n 1, 1) := by decide +kernel
theorem dX7_digest_187 : decode cX7_digest 187 = .ok (.aload_n 0, 1) := by decide +kernel
theorem dX7_digest_188 : decode cX7_digest 188 = .ok (.iconst 0, 1) := by decide +kernel
theorem dX7_digest_189 : decode cX7_digest 189 = .ok (.iconst 0, 1) := by decide +kernel
theorem dX7_digest_190 : decode cX7_digest 190 = .ok (.iconst 0, 1) := by decide +kernel
theorem dX7_digest_191 : decode cX7_digest 191 = .ok (.invokevirtual 328, 3) := by decide +kernel
theorem dX7_digest_194 : decode cX7_digest 194 = .ok (.i2l, 1) := by decide +kernel
theorem dX7_digest_195 : decode cX7_digest 195 = .ok (.invokestatic 295, 3) := by decide +kernel
theorem dX7_digest_198 : decode cX7_digest 198 = .ok (.aload_n 0, 1) := by decide +kernel
theorem dX7_digest_199 : decode cX7_digest 199 = .ok (.iconst 0, 1) := by decide +kernel
theorem dX7_digest_200 : decode cX7_digest 200 = .ok (.iconst 0, 1) := by decide +kernel
theorem dX7_digest_201 : decode cX7_digest 201 = .ok (.iconst 1, 1) := by decide +kernel
theorem dX7_digest_202 : decode cX7_digest 202 = .ok (.invokevirtual 328, 3) := by decide +kernel
theorem dX7_digest_205 : decode cX7_digest 205 = .ok (.i2l, 1) := by decide +kernel
theorem dX7_digest_206 : decode cX7_digest 206 = .ok (.invokestatic 295, 3) := by decide +kernel
theorem dX7_digest_209 : decode cX7_digest 209 = .ok (.lstore_n 1, 1) := by decide +kernel
theorem dX7_digest_210 : decode cX7_digest 210 = .ok (.lload_n 1, 1) := by decide +kernel
theorem dX7_digest_211 : decode cX7_digest 211 = .ok (.aload_n 0, 1) := by decide +kernel
theorem dX7_digest_212 : decode cX7_digest 212 = .ok (.iconst 2, 1) := by decide +kernel
theorem dX7_digest_213 : decode cX7_digest 213 = .ok (.iconst (-1), 1) := by decide +kernel
theorem dX7_digest_214 : decode cX7_digest 214 = .ok (.invokevirtual 332, 3) := by decide +kernel
theorem dX7_digest_217 : decode cX7_digest 217 = .ok (.i2l, 1) := by decide +kernel
theorem dX7_digest_218 : decode cX7_digest 218 = .ok (.invokestatic 295, 3) := by decide +kernel
theorem dX7_digest_221 : decode cX7_digest 221 = .ok (.lreturn, 1) := by decide +kernel
theorem dX7_join_0 : decode cX7_join 0 = .ok (.ldc2_w 335, 3) := by decide +kernel
theorem dX7_join_3 : decode cX7_join 3 = .ok (.lload_n 0, 1) := by decide +kernel
theorem dX7_join_4 : decode cX7_join 4 = .ok (.lmul, 1) := by decide +kernel
theorem dX7_join_5 : decode cX7_join 5 = .ok (.lload_n 2, 1) := by decide +kernel
theorem dX7_join_6 : decode cX7_join 6 = .ok (.ladd, 1) := by decide +kernel
theorem dX7_join_7 : decode cX7_join 7 = .ok (.lreturn, 1) := by decide +kernel
theorem dX7_joinPupil_0 : decode cX7_joinPupil 0 = .ok (.lload_n 1, 1) := by decide +kernel
theorem dX7_joinPupil_1 : decode cX7_joinPupil 1 = .ok (.aload_n 0, 1) := by decide +kernel
theorem dX7_joinPupil_2 : decode cX7_joinPupil 2 = .ok (.iload_n 3, 1) := by decide +kernel
theorem dX7_joinPupil_3 : decode cX7_joinPupil 3 = .ok (.iconst 0, 1) := by decide +kernel
theorem dX7_joinPupil_4 : decode cX7_joinPupil 4 = .ok (.invokevirtual 337, 3) := by decide +kernel
theorem dX7_joinPupil_7 : decode cX7_joinPupil 7 = .ok (.i2l, 1) := by decide +kernel
theorem dX7_joinPupil_8 : decode cX7_joinPupil 8 = .ok (.invokestatic 295, 3) := by decide +kernel
theorem dX7_joinPupil_11 : decode cX7_joinPupil 11 = .ok (.aload_n 0, 1) := by decide +kernel
theorem dX7_joinPupil_12 : decode cX7_joinPupil 12 = .ok (.iload_n 3, 1) := by decide +kernel
theorem dX7_joinPupil_13 : decode cX7_joinPupil 13 = .ok (.iconst 1, 1) := by decide +kernel
theorem dX7_joinPupil_14 : decode cX7_joinPupil 14 = .ok (.invokevirtual 337, 3) := by decide +kernel
theorem dX7_joinPupil_17 : decode cX7_joinPupil 17 = .ok (.i2l, 1) := by decide +kernel
theorem dX7_joinPupil_18 : decode cX7_joinPupil 18 = .ok (.invokestatic 295, 3) := by decide +kernel
theorem dX7_joinPupil_21 : decode cX7_joinPupil 21 = .ok (.lstore 4, 2) := by decide +kernel
theorem dX7_joinPupil_23 : decode cX7_joinPupil 23 = .ok (.iconst 0, 1) := by decide +kernel
theorem dX7_joinPupil_24 : decode cX7_joinPupil 24 = .ok (.istore 6, 2) := by decide +kernel
theorem dX7_joinPupil_26 : decode cX7_joinPupil 26 = .ok (.iload 6, 2) := by decide +kernel
theorem dX7_joinPupil_28 : decode cX7_joinPupil 28 = .ok (.iconst 3, 1) := by decide +kernel
theorem dX7_joinPupil_29 : decode cX7_joinPupil 29 = .ok (.if_icmp .ge 24, 3) := by decide +kernel
theorem dX7_joinPupil_32 : decode cX7_joinPupil 32 = .ok (.lload 4, 2) := by decide +kernel
theorem dX7_joinPupil_34 : decode cX7_joinPupil 34 = .ok (.aload_n 0, 1) := by decide +kernel
theorem dX7_joinPupil_35 : decode cX7_joinPupil 35 = .ok (.iload_n 3, 1) := by decide +kernel
theorem dX7_joinPupil_36 : decode cX7_joinPupil 36 = .ok (.iload 6, 2) := by decide +kernel
theorem dX7_joinPupil_38 : decode cX7_joinPupil 38 = .ok (.invokevirtual 340, 3) := by decide +kernel
theorem dX7_joinPupil_41 : decode cX7_joinPupil 41 = .ok (.i2l, 1) := by decide +kernel
theorem dX7_joinPupil_42 : decode cX7_joinPupil 42 = .ok (.invokestatic 295, 3) := by decide +kernel
theorem dX7_joinPupil_45 : decode cX7_joinPupil 45 = .ok (.lstore 4, 2) := by decide +kernel
theorem dX7_joinPupil_47 : decode cX7_joinPupil 47 = .ok (.iinc 6 1, 3) := by decide +kernel
theorem dX7_joinPupil_50 : decode cX7_joinPupil 50 = .ok (.goto (-24), 3) := by decide +kernel
theorem dX7_joinPupil_53 : decode cX7_joinPupil 53 = .ok (.lload 4, 2) := by decide +kernel
theorem dX7_joinPupil_55 : decode cX7_joinPupil 55 = .ok (.aload_n 0, 1) := by decide +kernel
theorem dX7_joinPupil_56 : decode cX7_joinPupil 56 = .ok (.iload_n 3, 1) := by decide +kernel
theorem dX7_joinPupil_57 : decode cX7_joinPupil 57 = .ok (.iconst 2, 1) := by decide +kernel
theorem dX7_joinPupil_58 : decode cX7_joinPupil 58 = .ok (.iconst 3, 1) := by decide +kernel
theorem dX7_joinPupil_59 : decode cX7_joinPupil 59 = .ok (.invokevirtual 343, 3) := by decide +kernel
theorem dX7_joinPupil_62 : decode cX7_joinPupil 62 = .ok (.i2l, 1) := by decide +kernel
theorem dX7_joinPupil_63 : decode cX7_joinPupil 63 = .ok (.invokestatic 295, 3) := by decide +kernel
theorem dX7_joinPupil_66 : decode cX7_joinPupil 66 = .ok (.lreturn, 1) := by decide +kernel
theorem dX7_joinQuestion_0 : decode cX7_joinQuestion 0 = .ok (.iload_n 3, 1) := by decide +kernel
theorem dX7_joinQuestion_1 : decode cX7_joinQuestion 1 = .ok (.iconst 1, 1) := by decide +kernel
theorem dX7_joinQuestion_2 : decode cX7_joinQuestion 2 = .ok (.iadd, 1) := by decide +kernel
theorem dX7_joinQuestion_3 : decode cX7_joinQuestion 3 = .ok (.aload_n 0, 1) := by decide +kernel
theorem dX7_joinQuestion_4 : decode cX7_joinQuestion 4 = .ok (.getfield 16, 3) := by decide +kernel
theorem dX7_joinQuestion_7 : decode cX7_joinQuestion 7 = .ok (.getfield 183, 3) := by decide +kernel
theorem dX7_joinQuestion_10 : decode cX7_joinQuestion 10 = .ok (.if_icmp .ge 9, 3) := by decide +kernel
theorem dX7_joinQuestion_13 : decode cX7_joinQuestion 13 = .ok (.iload_n 3, 1) := by decide +kernel
theorem dX7_joinQuestion_14 : decode cX7_joinQuestion 14 = .ok (.iconst 1, 1) := by decide +kernel
theorem dX7_joinQuestion_15 : decode cX7_joinQuestion 15 = .ok (.iadd, 1) := by decide +kernel
theorem dX7_joinQuestion_16 : decode cX7_joinQuestion 16 = .ok (.goto 4, 3) := by decide +kernel
theorem dX7_joinQuestion_19 : decode cX7_joinQuestion 19 = .ok (.iconst 0, 1) := by decide +kernel
theorem dX7_joinQuestion_20 : decode cX7_joinQuestion 20 = .ok (.istore 4, 2) := by decide +kernel
theorem dX7_joinQuestion_22 : decode cX7_joinQuestion 22 = .ok (.lload_n 1, 1) := by decide +kernel
theorem dX7_joinQuestion_23 : decode cX7_joinQuestion 23 = .ok (.aload_n 0, 1) := by decide +kernel
theorem dX7_joinQuestion_24 : decode cX7_joinQuestion 24 = .ok (.iload_n 3, 1) := by decide +kernel
theorem dX7_joinQuestion_25 : decode cX7_joinQuestion 25 = .ok (.invokevirtual 346, 3) := by decide +kernel
theorem dX7_joinQuestion_28 : decode cX7_joinQuestion 28 = .ok (.i2l, 1) := by decide +kernel
theorem dX7_joinQuestion_29 : decode cX7_joinQuestion 29 = .ok (.invokestatic 295, 3) := by decide +kernel
theorem dX7_joinQuestion_32 : decode cX7_joinQuestion 32 = .ok (.lstore 5, 2) := by decide +kernel
theorem dX7_joinQuestion_34 : decode cX7_joinQuestion 34 = .ok (.lload 5, 2) := by decide +kernel
theorem dX7_joinQuestion_36 : decode cX7_joinQuestion 36 = .ok (.aload_n 0, 1) := by decide +kernel
theorem dX7_joinQuestion_37 : decode cX7_joinQuestion 37 = .ok (.iload_n 3, 1) := by decide +kernel
theorem dX7_joinQuestion_38 : decode cX7_joinQuestion 38 = .ok (.iconst 0, 1) := by decide +kernel
theorem dX7_joinQuestion_39 : decode cX7_joinQuestion 39 = .ok (.invokevirtual 349, 3) := by decide +kernel
theorem dX7_joinQuestion_42 : decode cX7_joinQuestion 42 = .ok (.i2l, 1) := by decide +kernel
theorem dX7_joinQuestion_43 : decode cX7_joinQuestion 43 = .ok (.invokestatic 295, 3) := by decide +kernel
theorem dX7_joinQuestion_46 : decode cX7_joinQuestion 46 = .ok (.aload_n 0, 1) := by decide +kernel
theorem dX7_joinQuestion_47 : decode cX7_joinQuestion 47 = .ok (.iload_n 3, 1) := by decide +kernel
theorem dX7_joinQuestion_48 : decode cX7_joinQuestion 48 = .ok (.iconst 1, 1) := by decide +kernel
theorem dX7_joinQuestion_49 : decode cX7_joinQuestion 49 = .ok (.invokevirtual 349, 3) := by decide +kernel
theorem dX7_joinQuestion_52 : decode cX7_joinQuestion 52 = .ok (.i2l, 1) := by decide +kernel
theorem dX7_joinQuestion_53 : decode cX7_joinQuestion 53 = .ok (.invokestatic 295, 3) := by decide +kernel
theorem dX7_joinQuestion_56 : decode cX7_joinQuestion 56 = .ok (.lstore 5, 2) := by decide +kernel
theorem dX7_joinQuestion_58 : decode cX7_joinQuestion 58 = .ok (.lload 5, 2) := by decide +kernel
theorem dX7_joinQuestion_60 : decode cX7_joinQuestion 60 = .ok (.aload_n 0, 1) := by decide +kernel
theorem dX7_joinQuestion_61 : decode cX7_joinQuestion 61 = .ok (.iload_n 3, 1) := by decide +kernel
theorem dX7_joinQuestion_62 : decode cX7_joinQuestion 62 = .ok (.invokevirtual 352, 3) := by decide +kernel
theorem dX7_joinQuestion_65 : decode cX7_joinQuestion 65 = .ok (.i2l, 1) := by decide +kernel
theorem dX7_joinQuestion_66 : decode cX7_joinQuestion 66 = .ok (.invokestatic 295, 3) := by decide +kernel
theorem dX7_joinQuestion_69 : decode cX7_joinQuestion 69 = .ok (.lstore 5, 2) := by decide +kernel
theorem dX7_joinQuestion_71 : decode cX7_joinQuestion 71 = .ok (.lload 5, 2) := by decide +kernel
theorem dX7_joinQuestion_73 : decode cX7_joinQuestion 73 = .ok (.aload_n 0, 1) := by decide +kernel
theorem dX7_joinQuestion_74 : decode cX7_joinQuestion 74 = .ok (.iload_n 3, 1) := by decide +kernel
theorem dX7_joinQuestion_75 : decode cX7_joinQuestion 75 = .ok (.iload 4, 2) := by decide +kernel
theorem dX7_joinQuestion_77 : decode cX7_joinQuestion 77 = .ok (.iconst 0, 1) := by decide +kernel
theorem dX7_joinQuestion_78 : decode cX7_joinQuestion 78 = .ok (.invokevirtual 355, 3) := by decide +kernel
theorem dX7_joinQuestion_81 : decode cX7_joinQuestion 81 = .ok (.i2l, 1) := by decide +kernel
theorem dX7_joinQuestion_82 : decode cX7_joinQuestion 82 = .ok (.invokestatic 295, 3) := by decide +kernel
theorem dX7_joinQuestion_85 : decode cX7_joinQuestion 85 = .ok (.aload_n 0, 1) := by decide +kernel
theorem dX7_joinQuestion_86 : decode cX7_joinQuestion 86 = .ok (.iload_n 3, 1) := by decide +kernel
theorem dX7_joinQuestion_87 : decode cX7_joinQuestion 87 = .ok (.iload 4, 2) := by decide +kernel
theorem dX7_joinQuestion_89 : decode cX7_joinQuestion 89 = .ok (.iconst 1, 1) := by decide +kernel
theorem dX7_joinQuestion_90 : decode cX7_joinQuestion 90 = .ok (.invokevirtual 355, 3) := by decide +kernel
theorem dX7_joinQuestion_93 : decode cX7_joinQuestion 93 = .ok (.i2l, 1) := by decide +kernel
theorem dX7_joinQuestion_94 : decode cX7_joinQuestion 94 = .ok (.invokestatic 295, 3) := by decide +kernel
theorem dX7_joinQuestion_97 : decode cX7_joinQuestion 97 = .ok (.lreturn, 1) := by decide +kernel
theorem dX7_within_0 : decode cX7_within 0 = .ok (.iload_n 0, 1) := by decide +kernel
theorem dX7_within_1 : decode cX7_within 1 = .ok (.ifCond .lt 12, 3) := by decide +kernel
theorem dX7_within_4 : decode cX7_within 4 = .ok (.iload_n 0, 1) := by decide +kernel
theorem dX7_within_5 : decode cX7_within 5 = .ok (.iload_n 1, 1) := by decide +kernel
theorem dX7_within_6 : decode cX7_within 6 = .ok (.if_icmp .ge 7, 3) := by decide +kernel
theorem dX7_within_9 : decode cX7_within 9 = .ok (.iconst 1, 1) := by decide +kernel
theorem dX7_within_10 : decode cX7_within 10 = .ok (.goto 4, 3) := by decide +kernel
theorem dX7_within_13 : decode cX7_within 13 = .ok (.iconst 0, 1) := by decide +kernel
theorem dX7_within_14 : decode cX7_within 14 = .ok (.ireturn, 1) := by decide +kernel
theorem dX7_isQuestion_0 : decode cX7_isQuestion 0 = .ok (.iload_n 1, 1) := by decide +kernel
theorem dX7_isQuestion_1 : decode cX7_isQuestion 1 = .ok (.aload_n 0, 1) := by decide +kernel
theorem dX7_isQuestion_2 : decode cX7_isQuestion 2 = .ok (.getfield 16, 3) := by decide +kernel
theorem dX7_isQuestion_5 : decode cX7_isQuestion 5 = .ok (.getfield 183, 3) := by decide +kernel
theorem dX7_isQuestion_8 : decode cX7_isQuestion 8 = .ok (.invokestatic 62, 3) := by decide +kernel
theorem dX7_isQuestion_11 : decode cX7_isQuestion 11 = .ok (.ireturn, 1) := by decide +kernel
theorem dX7_chanceFits_0 : decode cX7_chanceFits 0 = .ok (.iload_n 0, 1) := by decide +kernel
theorem dX7_chanceFits_1 : decode cX7_chanceFits 1 = .ok (.bipush 12, 2) := by decide +kernel
theorem dX7_chanceFits_3 : decode cX7_chanceFits 3 = .ok (.invokestatic 62, 3) := by decide +kernel
theorem dX7_chanceFits_6 : decode cX7_chanceFits 6 = .ok (.ifCond .eq 35, 3) := by decide +kernel
theorem dX7_chanceFits_9 : decode cX7_chanceFits 9 = .ok (.iload_n 1, 1) := by decide +kernel
theorem dX7_chanceFits_10 : decode cX7_chanceFits 10 = .ok (.sipush 128, 3) := by decide +kernel
theorem dX7_chanceFits_13 : decode cX7_chanceFits 13 = .ok (.invokestatic 62, 3) := by decide +kernel
theorem dX7_chanceFits_16 : decode cX7_chanceFits 16 = .ok (.ifCond .eq 25, 3) := by decide +kernel
theorem dX7_chanceFits_19 : decode cX7_chanceFits 19 = .ok (.iload_n 2, 1) := by decide +kernel
theorem dX7_chanceFits_20 : decode cX7_chanceFits 20 = .ok (.bipush 17, 2) := by decide +kernel
theorem dX7_chanceFits_22 : decode cX7_chanceFits 22 = .ok (.invokestatic 62, 3) := by decide +kernel
theorem dX7_chanceFits_25 : decode cX7_chanceFits 25 = .ok (.ifCond .eq 16, 3) := by decide +kernel
theorem dX7_chanceFits_28 : decode cX7_chanceFits 28 = .ok (.iload_n 3, 1) := by decide +kernel
theorem dX7_chanceFits_29 : decode cX7_chanceFits 29 = .ok (.bipush 17, 2) := by decide +kernel
theorem dX7_chanceFits_31 : decode cX7_chanceFits 31 = .ok (.invokestatic 62, 3) := by decide +kernel
theorem dX7_chanceFits_34 : decode cX7_chanceFits 34 = .ok (.ifCond .eq 7, 3) := by decide +kernel
theorem dX7_chanceFits_37 : decode cX7_chanceFits 37 = .ok (.iconst 1, 1) := by decide +kernel
theorem dX7_chanceFits_38 : decode cX7_chanceFits 38 = .ok (.goto 4, 3) := by decide +kernel
theorem dX7_chanceFits_41 : decode cX7_chanceFits 41 = .ok (.iconst 0, 1) := by decide +kernel
theorem dX7_chanceFits_42 : decode cX7_chanceFits 42 = .ok (.ireturn, 1) := by decide +kernel
theorem dX7_refusal_0 : decode cX7_refusal 0 = .ok (.ldc2_w 360, 3) := by decide +kernel
theorem dX7_refusal_3 : decode cX7_refusal 3 = .ok (.iload_n 0, 1) := by decide +kernel
theorem dX7_refusal_4 : decode cX7_refusal 4 = .ok (.i2l, 1) := by decide +kernel
theorem dX7_refusal_5 : decode cX7_refusal 5 = .ok (.lsub, 1) := by decide +kernel
theorem dX7_refusal_6 : decode cX7_refusal 6 = .ok (.lreturn, 1) := by decide +kernel
theorem dX7_tellFinding_0 : decode cX7_tellFinding 0 = .ok (.aload_n 0, 1) := by decide +kernel
theorem dX7_tellFinding_1 : decode cX7_tellFinding 1 = .ok (.iload_n 1, 1) := by decide +kernel
theorem dX7_tellFinding_2 : decode cX7_tellFinding 2 = .ok (.putfield 266, 3) := by decide +kernel
theorem dX7_tellFinding_5 : decode cX7_tellFinding 5 = .ok (.bipush (-10), 2) := by decide +kernel
theorem dX7_tellFinding_7 : decode cX7_tellFinding 7 = .ok (.iload_n 1, 1) := by decide +kernel
theorem dX7_tellFinding_8 : decode cX7_tellFinding 8 = .ok (.isub, 1) := by decide +kernel
theorem dX7_tellFinding_9 : decode cX7_tellFinding 9 = .ok (.ireturn, 1) := by decide +kernel
theorem dX7_tellOne_0 : decode cX7_tellOne 0 = .ok (.aload_n 0, 1) := by decide +kernel
theorem dX7_tellOne_1 : decode cX7_tellOne 1 = .ok (.getfield 16, 3) := by decide +kernel
theorem dX7_tellOne_4 : decode cX7_tellOne 4 = .ok (.iload_n 1, 1) := by decide +kernel
theorem dX7_tellOne_5 : decode cX7_tellOne 5 = .ok (.iload_n 2, 1) := by decide +kernel
theorem dX7_tellOne_6 : decode cX7_tellOne 6 = .ok (.iload_n 3, 1) := by decide +kernel
theorem dX7_tellOne_7 : decode cX7_tellOne 7 = .ok (.iload 4, 2) := by decide +kernel
theorem dX7_tellOne_9 : decode cX7_tellOne 9 = .ok (.invokevirtual 362, 3) := by decide +kernel
theorem dX7_tellOne_12 : decode cX7_tellOne 12 = .ok (.aload_n 0, 1) := by decide +kernel
theorem dX7_tellOne_13 : decode cX7_tellOne 13 = .ok (.getfield 30, 3) := by decide +kernel
theorem dX7_tellOne_16 : decode cX7_tellOne 16 = .ok (.iconst 0, 1) := by decide +kernel
theorem dX7_tellOne_17 : decode cX7_tellOne 17 = .ok (.putfield 76, 3) := by decide +kernel
theorem dX7_tellOne_20 : decode cX7_tellOne 20 = .ok (.aload_n 0, 1) := by decide +kernel
theorem dX7_tellOne_21 : decode cX7_tellOne 21 = .ok (.getfield 37, 3) := by decide +kernel
theorem dX7_tellOne_24 : decode cX7_tellOne 24 = .ok (.iconst 0, 1) := by decide +kernel
theorem dX7_tellOne_25 : decode cX7_tellOne 25 = .ok (.putfield 80, 3) := by decide +kernel
theorem dX7_tellOne_28 : decode cX7_tellOne 28 = .ok (.return_, 1) := by decide +kernel
theorem dX7_isRow_0 : decode cX7_isRow 0 = .ok (.aload_n 1, 1) := by decide +kernel
theorem dX7_isRow_1 : decode cX7_isRow 1 = .ok (.getfield 104, 3) := by decide +kernel
theorem dX7_isRow_4 : decode cX7_isRow 4 = .ok (.aload_n 0, 1) := by decide +kernel
theorem dX7_isRow_5 : decode cX7_isRow 5 = .ok (.getfield 16, 3) := by decide +kernel
theorem dX7_isRow_8 : decode cX7_isRow 8 = .ok (.getfield 183, 3) := by decide +kernel
theorem dX7_isRow_11 : decode cX7_isRow 11 = .ok (.if_icmp .ge 5, 3) := by decide +kernel
theorem dX7_isRow_14 : decode cX7_isRow 14 = .ok (.iconst 0, 1) := by decide +kernel
theorem dX7_isRow_15 : decode cX7_isRow 15 = .ok (.ireturn, 1) := by decide +kernel
theorem dX7_isRow_16 : decode cX7_isRow 16 = .ok (.iconst 0, 1) := by decide +kernel
theorem dX7_isRow_17 : decode cX7_isRow 17 = .ok (.istore_n 2, 1) := by decide +kernel
theorem dX7_isRow_18 : decode cX7_isRow 18 = .ok (.iconst 0, 1) := by decide +kernel
theorem dX7_isRow_19 : decode cX7_isRow 19 = .ok (.istore_n 3, 1) := by decide +kernel
theorem dX7_isRow_20 : decode cX7_isRow 20 = .ok (.iload_n 3, 1) := by decide +kernel
theorem dX7_isRow_21 : decode cX7_isRow 21 = .ok (.aload_n 0, 1) := by decide +kernel
theorem dX7_isRow_22 : decode cX7_isRow 22 = .ok (.getfield 16, 3) := by decide +kernel
theorem dX7_isRow_25 : decode cX7_isRow 25 = .ok (.getfield 183, 3) := by decide +kernel
theorem dX7_isRow_28 : decode cX7_isRow 28 = .ok (.if_icmp .ge 35, 3) := by decide +kernel
theorem dX7_isRow_31 : decode cX7_isRow 31 = .ok (.aload_n 0, 1) := by decide +kernel
theorem dX7_isRow_32 : decode cX7_isRow 32 = .ok (.aload_n 1, 1) := by decide +kernel
theorem dX7_isRow_33 : decode cX7_isRow 33 = .ok (.getfield 113, 3) := by decide +kernel
theorem dX7_isRow_36 : decode cX7_isRow 36 = .ok (.iload_n 3, 1) := by decide +kernel
theorem dX7_isRow_37 : decode cX7_isRow 37 = .ok (.iaload, 1) := by decide +kernel
theorem dX7_isRow_38 : decode cX7_isRow 38 = .ok (.invokevirtual 132, 3) := by decide +kernel
theorem dX7_isRow_41 : decode cX7_isRow 41 = .ok (.ifCond .ne 5, 3) := by decide +kernel
theorem dX7_isRow_44 : decode cX7_isRow 44 = .ok (.iconst 0, 1) := by decide +kernel
theorem dX7_isRow_45 : decode cX7_isRow 45 = .ok (.ireturn, 1) := by decide +kernel
theorem dX7_isRow_46 : decode cX7_isRow 46 = .ok (.iload_n 2, 1) := by decide +kernel
theorem dX7_isRow_47 : decode cX7_isRow 47 = .ok (.iconst 1, 1) := by decide +kernel
theorem dX7_isRow_48 : decode cX7_isRow 48 = .ok (.aload_n 1, 1) := by decide +kernel
theorem dX7_isRow_49 : decode cX7_isRow 49 = .ok (.getfield 113, 3) := by decide +kernel
theorem dX7_isRow_52 : decode cX7_isRow 52 = .ok (.iload_n 3, 1) := by decide +kernel
theorem dX7_isRow_53 : decode cX7_isRow 53 = .ok (.iaload, 1) := by decide +kernel
theorem dX7_isRow_54 : decode cX7_isRow 54 = .ok (.ishl, 1) := by decide +kernel
theorem dX7_isRow_55 : decode cX7_isRow 55 = .ok (.ior, 1) := by decide +kernel
theorem dX7_isRow_56 : decode cX7_isRow 56 = .ok (.istore_n 2, 1) := by decide +kernel
theorem dX7_isRow_57 : decode cX7_isRow 57 = .ok (.iinc 3 1, 3) := by decide +kernel
theorem dX7_isRow_60 : decode cX7_isRow 60 = .ok (.goto (-40), 3) := by decide +kernel
theorem dX7_isRow_63 : decode cX7_isRow 63 = .ok (.iload_n 2, 1) := by decide +kernel
theorem dX7_isRow_64 : decode cX7_isRow 64 = .ok (.aload_n 0, 1) := by decide +kernel
theorem dX7_isRow_65 : decode cX7_isRow 65 = .ok (.getfield 16, 3) := by decide +kernel
theorem dX7_isRow_68 : decode cX7_isRow 68 = .ok (.getfield 365, 3) := by decide +kernel
theorem dX7_isRow_71 : decode cX7_isRow 71 = .ok (.if_icmp .ne 7, 3) := by decide +kernel
theorem dX7_isRow_74 : decode cX7_isRow 74 = .ok (.iconst 1, 1) := by decide +kernel
theorem dX7_isRow_75 : decode cX7_isRow 75 = .ok (.goto 4, 3) := by decide +kernel
theorem dX7_isRow_78 : decode cX7_isRow 78 = .ok (.iconst 0, 1) := by decide +kernel
theorem dX7_isRow_79 : decode cX7_isRow 79 = .ok (.ireturn, 1) := by decide +kernel
theorem dX7_needsOf_0 : decode cX7_needsOf 0 = .ok (.iload_n 2, 1) := by decide +kernel
theorem dX7_needsOf_1 : decode cX7_needsOf 1 = .ok (.iconst 1, 1) := by decide +kernel
theorem dX7_needsOf_2 : decode cX7_needsOf 2 = .ok (.if_icmp .ne 18, 3) := by decide +kernel
theorem dX7_needsOf_5 : decode cX7_needsOf 5 = .ok (.aload_n 0, 1) := by decide +kernel
theorem dX7_needsOf_6 : decode cX7_needsOf 6 = .ok (.getfield 16, 3) := by decide +kernel
theorem dX7_needsOf_9 : decode cX7_needsOf 9 = .ok (.iload_n 1, 1) := by decide +kernel
theorem dX7_needsOf_10 : decode cX7_needsOf 10 = .ok (.aload_n 0, 1) := by decide +kernel
theorem dX7_needsOf_11 : decode cX7_needsOf 11 = .ok (.getfield 9, 3) := by decide +kernel
theorem dX7_needsOf_14 : decode cX7_needsOf 14 = .ok (.iconst 2, 1) := by decide +kernel
theorem dX7_needsOf_15 : decode cX7_needsOf 15 = .ok (.iaload, 1) := by decide +kernel
theorem dX7_needsOf_16 : decode cX7_needsOf 16 = .ok (.invokevirtual 366, 3) := by decide +kernel
theorem dX7_needsOf_19 : decode cX7_needsOf 19 = .ok (.ireturn, 1) := by decide +kernel
theorem dX7_needsOf_20 : decode cX7_needsOf 20 = .ok (.aload_n 0, 1) := by decide +kernel
theorem dX7_needsOf_21 : decode cX7_needsOf 21 = .ok (.getfield 23, 3) := by decide +kernel
theorem dX7_needsOf_24 : decode cX7_needsOf 24 = .ok (.getfield 369, 3) := by decide +kernel
theorem dX7_needsOf_27 : decode cX7_needsOf 27 = .ok (.iload_n 1, 1) := by decide +kernel
theorem dX7_needsOf_28 : decode cX7_needsOf 28 = .ok (.iaload, 1) := by decide +kernel
theorem dX7_needsOf_29 : decode cX7_needsOf 29 = .ok (.aload_n 0, 1) := by decide +kernel
theorem dX7_needsOf_30 : decode cX7_needsOf 30 = .ok (.getfield 16, 3) := by decide +kernel
theorem dX7_needsOf_33 : decode cX7_needsOf 33 = .ok (.getfield 365, 3) := by decide +kernel
theorem dX7_needsOf_36 : decode cX7_needsOf 36 = .ok (.iand, 1) := by decide +kernel
theorem dX7_needsOf_37 : decode cX7_needsOf 37 = .ok (.ireturn, 1) := by decide +kernel
theorem dX7_findStates_0 : decode cX7_findStates 0 = .ok (.aload_n 0, 1) := by decide +kernel
theorem dX7_findStates_1 : decode cX7_findStates 1 = .ok (.getfield 37, 3) := by decide +kernel
theorem dX7_findStates_4 : decode cX7_findStates 4 = .ok (.getfield 80, 3) := by decide +kernel
theorem dX7_findStates_7 : decode cX7_findStates 7 = .ok (.ifCond .eq 4, 3) := by decide +kernel
theorem dX7_findStates_10 : decode cX7_findStates 10 = .ok (.return_, 1) := by decide +kernel
theorem dX7_findStates_11 : decode cX7_findStates 11 = .ok (.aload_n 0, 1) := by decide +kernel
theorem dX7_findStates_12 : decode cX7_findStates 12 = .ok (.getfield 37, 3) := by decide +kernel
theorem dX7_findStates_15 : decode cX7_findStates 15 = .ok (.aload_n 0, 1) := by decide +kernel
theorem dX7_findStates_16 : decode cX7_findStates 16 = .ok (.getfield 16, 3) := by decide +kernel
theorem dX7_findStates_19 : decode cX7_findStates 19 = .ok (.getfield 183, 3) := by decide +kernel
theorem dX7_findStates_22 : decode cX7_findStates 22 = .ok (.invokevirtual 372, 3) := by decide +kernel
theorem dX7_findStates_25 : decode cX7_findStates 25 = .ok (.iconst 0, 1) := by decide +kernel
theorem dX7_findStates_26 : decode cX7_findStates 26 = .ok (.istore_n 1, 1) := by decide +kernel
theorem dX7_findStates_27 : decode cX7_findStates 27 = .ok (.iload_n 1, 1) := by decide +kernel
theorem dX7_findStates_28 : decode cX7_findStates 28 = .ok (.aload_n 0, 1) := by decide +kernel
theorem dX7_findStates_29 : decode cX7_findStates 29 = .ok (.getfield 16, 3) := by decide +kernel
theorem dX7_findStates_32 : decode cX7_findStates 32 = .ok (.getfield 183, 3) := by decide +kernel
theorem dX7_findStates_35 : decode cX7_findStates 35 = .ok (.if_icmp .ge 29, 3) := by decide +kernel
theorem dX7_findStates_38 : decode cX7_findStates 38 = .ok (.aload_n 0, 1) := by decide +kernel
theorem dX7_findStates_39 : decode cX7_findStates 39 = .ok (.getfield 37, 3) := by decide +kernel
theorem dX7_findStates_42 : decode cX7_findStates 42 = .ok (.getfield 374, 3) := by decide +kernel
theorem dX7_findStates_45 : decode cX7_findStates 45 = .ok (.iload_n 1, 1) := by decide +kernel
theorem dX7_findStates_46 : decode cX7_findStates 46 = .ok (.aload_n 0, 1) := by decide +kernel
theorem dX7_findStates_47 : decode cX7_findStates 47 = .ok (.iload_n 1, 1) := by decide +kernel
theorem dX7_findStates_48 : decode cX7_findStates 48 = .ok (.aload_n 0, 1) := by decide +kernel
theorem dX7_findStates_49 : decode cX7_findStates 49 = .ok (.getfield 9, 3) := by decide +kernel
theorem dX7_findStates_52 : decode cX7_findStates 52 = .ok (.iconst 3, 1) := by decide +kernel
theorem dX7_findStates_53 : decode cX7_findStates 53 = .ok (.iaload, 1) := by decide +kernel
theorem dX7_findStates_54 : decode cX7_findStates 54 = .ok (.invokevirtual 135, 3) := by decide +kernel
theorem dX7_findStates_57 : decode cX7_findStates 57 = .ok (.iastore, 1) := by decide +kernel
theorem dX7_findStates_58 : decode cX7_findStates 58 = .ok (.iinc 1 1, 3) := by decide +kernel
theorem dX7_findStates_61 : decode cX7_findStates 61 = .ok (.goto (-34), 3) := by decide +kernel
theorem dX7_findStates_64 : decode cX7_findStates 64 = .ok (.aload_n 0, 1) := by decide +kernel
theorem dX7_findStates_65 : decode cX7_findStates 65 = .ok (.getfield 37, 3) := by decide +kernel
theorem dX7_findStates_68 : decode cX7_findStates 68 = .ok (.invokevirtual 375, 3) := by decide +kernel
theorem dX7_findStates_71 : decode cX7_findStates 71 = .ok (.return_, 1) := by decide +kernel
theorem dX7_stateOf_0 : decode cX7_stateOf 0 = .ok (.iconst 0, 1) := by decide +kernel
theorem dX7_stateOf_1 : decode cX7_stateOf 1 = .ok (.istore_n 2, 1) := by decide +kernel
theorem dX7_stateOf_2 : decode cX7_stateOf 2 = .ok (.bipush 8, 2) := by decide +kernel
theorem dX7_stateOf_4 : decode cX7_stateOf 4 = .ok (.istore_n 3, 1) := by decide +kernel
theorem dX7_stateOf_5 : decode cX7_stateOf 5 = .ok (.iconst 0, 1) := by decide +kernel
theorem dX7_stateOf_6 : decode cX7_stateOf 6 = .ok (.istore 4, 2) := by decide +kernel
theorem dX7_stateOf_8 : decode cX7_stateOf 8 = .ok (.iload 4, 2) := by decide +kernel
theorem dX7_stateOf_10 : decode cX7_stateOf 10 = .ok (.aload_n 0, 1) := by decide +kernel
theorem dX7_stateOf_11 : decode cX7_stateOf 11 = .ok (.getfield 37, 3) := by decide +kernel
theorem dX7_stateOf_14 : decode cX7_stateOf 14 = .ok (.getfield 189, 3) := by decide +kernel
theorem dX7_stateOf_17 : decode cX7_stateOf 17 = .ok (.if_icmp .ge 49, 3) := by decide +kernel
theorem dX7_stateOf_20 : decode cX7_stateOf 20 = .ok (.aload_n 0, 1) := by decide +kernel
theorem dX7_stateOf_21 : decode cX7_stateOf 21 = .ok (.getfield 16, 3) := by decide +kernel
theorem dX7_stateOf_24 : decode cX7_stateOf 24 = .ok (.iload_n 1, 1) := by decide +kernel
theorem dX7_stateOf_25 : decode cX7_stateOf 25 = .ok (.aload_n 0, 1) := by decide +kernel
theorem dX7_stateOf_26 : decode cX7_stateOf 26 = .ok (.getfield 37, 3) := by decide +kernel
theorem dX7_stateOf_29 : decode cX7_stateOf 29 = .ok (.getfield 190, 3) := by decide +kernel
theorem dX7_stateOf_32 : decode cX7_stateOf 32 = .ok (.iload 4, 2) := by decide +kernel
theorem dX7_stateOf_34 : decode cX7_stateOf 34 = .ok (.iaload, 1) := by decide +kernel
theorem dX7_stateOf_35 : decode cX7_stateOf 35 = .ok (.invokevirtual 138, 3) := by decide +kernel
theorem dX7_stateOf_38 : decode cX7_stateOf 38 = .ok (.istore 5, 2) := by decide +kernel
theorem dX7_stateOf_40 : decode cX7_stateOf 40 = .ok (.iload 5, 2) := by decide +kernel
theorem dX7_stateOf_42 : decode cX7_stateOf 42 = .ok (.iload_n 3, 1) := by decide +kernel
theorem dX7_stateOf_43 : decode cX7_stateOf 43 = .ok (.if_icmp .ge 17, 3) := by decide +kernel
theorem dX7_stateOf_46 : decode cX7_stateOf 46 = .ok (.iload 5, 2) := by decide +kernel
theorem dX7_stateOf_48 : decode cX7_stateOf 48 = .ok (.istore_n 3, 1) := by decide +kernel
theorem dX7_stateOf_49 : decode cX7_stateOf 49 = .ok (.aload_n 0, 1) := by decide +kernel
theorem dX7_stateOf_50 : decode cX7_stateOf 50 = .ok (.getfield 37, 3) := by decide +kernel
theorem dX7_stateOf_53 : decode cX7_stateOf 53 = .ok (.getfield 190, 3) := by decide +kernel
theorem dX7_stateOf_56 : decode cX7_stateOf 56 = .ok (.iload 4, 2) := by decide +kernel
theorem dX7_stateOf_58 : decode cX7_stateOf 58 = .ok (.iaload, 1) := by decide +kernel
theorem dX7_stateOf_59 : decode cX7_stateOf 59 = .ok (.istore_n 2, 1) := by decide +kernel
theorem dX7_stateOf_60 : decode cX7_stateOf 60 = .ok (.iinc 4 1, 3) := by decide +kernel
theorem dX7_stateOf_63 : decode cX7_stateOf 63 = .ok (.goto (-55), 3) := by decide +kernel
theorem dX7_stateOf_66 : decode cX7_stateOf 66 = .ok (.iload_n 2, 1) := by decide +kernel
theorem dX7_stateOf_67 : decode cX7_stateOf 67 = .ok (.ireturn, 1) := by decide +kernel
theorem dX7_statesWithErrors_0 : decode cX7_statesWithErrors 0 = .ok (.iconst 0, 1) := by decide +kernel
theorem dX7_statesWithErrors_1 : decode cX7_statesWithErrors 1 = .ok (.istore_n 3, 1) := by decide +kernel
theorem dX7_statesWithErrors_2 : decode cX7_statesWithErrors 2 = .ok (.iconst 0, 1) := by decide +kernel
theorem dX7_statesWithErrors_3 : decode cX7_statesWithErrors 3 = .ok (.istore 4, 2) := by decide +kernel
theorem dX7_statesWithErrors_5 : decode cX7_statesWithErrors 5 = .ok (.iload 4, 2) := by decide +kernel
theorem dX7_statesWithErrors_7 : decode cX7_statesWithErrors 7 = .ok (.aload_n 0, 1) := by decide +kernel
theorem dX7_statesWithErrors_8 : decode cX7_statesWithErrors 8 = .ok (.getfield 37, 3) := by decide +kernel
theorem dX7_statesWithErrors_11 : decode cX7_statesWithErrors 11 = .ok (.getfield 189, 3) := by decide +kernel
theorem dX7_statesWithErrors_14 : decode cX7_statesWithErrors 14 = .ok (.if_icmp .ge 34, 3) := by decide +kernel
theorem dX7_statesWithErrors_17 : decode cX7_statesWithErrors 17 = .ok (.aload_n 0, 1) := by decide +kernel
theorem dX7_statesWithErrors_18 : decode cX7_statesWithErrors 18 = .ok (.getfield 16, 3) := by decide +kernel
theorem dX7_statesWithErrors_21 : decode cX7_statesWithErrors 21 = .ok (.iload_n 1, 1) := by decide +kernel
theorem dX7_statesWithErrors_22 : decode cX7_statesWithErrors 22 = .ok (.aload_n 0, 1) := by decide +kernel
theorem dX7_statesWithErrors_23 : decode cX7_statesWithErrors 23 = .ok (.getfield 37, 3) := by decide +kernel
theorem dX7_statesWithErrors_26 : decode cX7_statesWithErrors 26 = .ok (.getfield 190, 3) := by decide +kernel
theorem dX7_statesWithErrors_29 : decode cX7_statesWithErrors 29 = .ok (.iload 4, 2) := by decide +kernel
theorem dX7_statesWithErrors_31 : decode cX7_statesWithErrors 31 = .ok (.iaload, 1) := by decide +kernel
theorem dX7_statesWithErrors_32 : decode cX7_statesWithErrors 32 = .ok (.invokevirtual 138, 3) := by decide +kernel
theorem dX7_statesWithErrors_35 : decode cX7_statesWithErrors 35 = .ok (.iload_n 2, 1) := by decide +kernel
theorem dX7_statesWithErrors_36 : decode cX7_statesWithErrors 36 = .ok (.if_icmp .ne 6, 3) := by decide +kernel
theorem dX7_statesWithErrors_39 : decode cX7_statesWithErrors 39 = .ok (.iinc 3 1, 3) := by decide +kernel
theorem dX7_statesWithErrors_42 : decode cX7_statesWithErrors 42 = .ok (.iinc 4 1, 3) := by decide +kernel
theorem dX7_statesWithErrors_45 : decode cX7_statesWithErrors 45 = .ok (.goto (-40), 3) := by decide +kernel
theorem dX7_statesWithErrors_48 : decode cX7_statesWithErrors 48 = .ok (.iload_n 3, 1) := by decide +kernel
theorem dX7_statesWithErrors_49 : decode cX7_statesWithErrors 49 = .ok (.ireturn, 1) := by decide +kernel
theorem dX7_lowestTerm_0 : decode cX7_lowestTerm 0 = .ok (.lload_n 0, 1) := by decide +kernel
theorem dX7_lowestTerm_1 : decode cX7_lowestTerm 1 = .ok (.lload_n 2, 1) := by decide +kernel
theorem dX7_lowestTerm_2 : decode cX7_lowestTerm 2 = .ok (.invokestatic 378, 3) := by decide +kernel
theorem dX7_lowestTerm_5 : decode cX7_lowestTerm 5 = .ok (.lstore 5, 2) := by decide +kernel
theorem dX7_lowestTerm_7 : decode cX7_lowestTerm 7 = .ok (.iload 4, 2) := by decide +kernel
theorem dX7_lowestTerm_9 : decode cX7_lowestTerm 9 = .ok (.ifCond .ne 7, 3) := by decide +kernel
theorem dX7_lowestTerm_12 : decode cX7_lowestTerm 12 = .ok (.lload_n 0, 1) := by decide +kernel
theorem dX7_lowestTerm_13 : decode cX7_lowestTerm 13 = .ok (.goto 4, 3) := by decide +kernel
theorem dX7_lowestTerm_16 : decode cX7_lowestTerm 16 = .ok (.lload_n 2, 1) := by decide +kernel
theorem dX7_lowestTerm_17 : decode cX7_lowestTerm 17 = .ok (.lstore 7, 2) := by decide +kernel
theorem dX7_lowestTerm_19 : decode cX7_lowestTerm 19 = .ok (.lload 5, 2) := by decide +kernel
theorem dX7_lowestTerm_21 : decode cX7_lowestTerm 21 = .ok (.lconst 0, 1) := by decide +kernel
theorem dX7_lowestTerm_22 : decode cX7_lowestTerm 22 = .ok (.lcmp, 1) := by decide +kernel
theorem dX7_lowestTerm_23 : decode cX7_lowestTerm 23 = .ok (.ifCond .le 11, 3) := by decide +kernel
theorem dX7_lowestTerm_26 : decode cX7_lowestTerm 26 = .ok (.lload 7, 2) := by decide +kernel
theorem dX7_lowestTerm_28 : decode cX7_lowestTerm 28 = .ok (.lload 5, 2) := by decide +kernel
theorem dX7_lowestTerm_30 : decode cX7_lowestTerm 30 = .ok (.ldiv, 1) := by decide +kernel
theorem dX7_lowestTerm_31 : decode cX7_lowestTerm 31 = .ok (.goto 5, 3) := by decide +kernel
theorem dX7_lowestTerm_34 : decode cX7_lowestTerm 34 = .ok (.lload 7, 2) := by decide +kernel
theorem dX7_lowestTerm_36 : decode cX7_lowestTerm 36 = .ok (.lreturn, 1) := by decide +kernel
theorem dX7_commonDivisor_0 : decode cX7_commonDivisor 0 = .ok (.lload_n 2, 1) := by decide +kernel
theorem dX7_commonDivisor_1 : decode cX7_commonDivisor 1 = .ok (.lstore 4, 2) := by decide +kernel
theorem dX7_commonDivisor_3 : decode cX7_commonDivisor 3 = .ok (.lload_n 0, 1) := by decide +kernel
theorem dX7_commonDivisor_4 : decode cX7_commonDivisor 4 = .ok (.lstore 6, 2) := by decide +kernel
theorem dX7_commonDivisor_6 : decode cX7_commonDivisor 6 = .ok (.iconst 0, 1) := by decide +kernel
theorem dX7_commonDivisor_7 : decode cX7_commonDivisor 7 = .ok (.istore 8, 2) := by decide +kernel
theorem dX7_commonDivisor_9 : decode cX7_commonDivisor 9 = .ok (.iload 8, 2) := by decide +kernel
theorem dX7_commonDivisor_11 : decode cX7_commonDivisor 11 = .ok (.sipush 130, 3) := by decide +kernel
theorem dX7_commonDivisor_14 : decode cX7_commonDivisor 14 = .ok (.if_icmp .ge 31, 3) := by decide +kernel
theorem dX7_commonDivisor_17 : decode cX7_commonDivisor 17 = .ok (.lload 6, 2) := by decide +kernel
theorem dX7_commonDivisor_19 : decode cX7_commonDivisor 19 = .ok (.lconst 0, 1) := by decide +kernel
theorem dX7_commonDivisor_20 : decode cX7_commonDivisor 20 = .ok (.lcmp, 1) := by decide +kernel
theorem dX7_commonDivisor_21 : decode cX7_commonDivisor 21 = .ok (.ifCond .eq 24, 3) := by decide +kernel
theorem dX7_commonDivisor_24 : decode cX7_commonDivisor 24 = .ok (.lload 4, 2) := by decide +kernel
theorem dX7_commonDivisor_26 : decode cX7_commonDivisor 26 = .ok (.lload 6, 2) := by decide +kernel
theorem dX7_commonDivisor_28 : decode cX7_commonDivisor 28 = .ok (.lrem, 1) := by decide +kernel
theorem dX7_commonDivisor_29 : decode cX7_commonDivisor 29 = .ok (.lstore 9, 2) := by decide +kernel
theorem dX7_commonDivisor_31 : decode cX7_commonDivisor 31 = .ok (.lload 6, 2) := by decide +kernel
theorem dX7_commonDivisor_33 : decode cX7_commonDivisor 33 = .ok (.lstore 4, 2) := by decide +kernel
theorem dX7_commonDivisor_35 : decode cX7_commonDivisor 35 = .ok (.lload 9, 2) := by decide +kernel
theorem dX7_commonDivisor_37 : decode cX7_commonDivisor 37 = .ok (.lstore 6, 2) := by decide +kernel
theorem dX7_commonDivisor_39 : decode cX7_commonDivisor 39 = .ok (.iinc 8 1, 3) := by decide +kernel
theorem dX7_commonDivisor_42 : decode cX7_commonDivisor 42 = .ok (.goto (-33), 3) := by decide +kernel
theorem dX7_commonDivisor_45 : decode cX7_commonDivisor 45 = .ok (.lload 4, 2) := by decide +kernel
theorem dX7_commonDivisor_47 : decode cX7_commonDivisor 47 = .ok (.lreturn, 1) := by decide +kernel
theorem dX8_init_0 : decode cX8_init 0 = .ok (.aload_n 0, 1) := by decide +kernel
theorem dX8_init_1 : decode cX8_init 1 = .ok (.invokespecial 1, 3) := by decide +kernel
theorem dX8_init_4 : decode cX8_init 4 = .ok (.aload_n 0, 1) := by decide +kernel
theorem dX8_init_5 : decode cX8_init 5 = .ok (.iconst 4, 1) := by decide +kernel
theorem dX8_init_6 : decode cX8_init 6 = .ok (.newarray .int, 2) := by decide +kernel
theorem dX8_init_8 : decode cX8_init 8 = .ok (.putfield 7, 3) := by decide +kernel
theorem dX8_init_11 : decode cX8_init 11 = .ok (.aload_n 0, 1) := by decide +kernel
theorem dX8_init_12 : decode cX8_init 12 = .ok (.iconst 4, 1) := by decide +kernel
theorem dX8_init_13 : decode cX8_init 13 = .ok (.newarray .int, 2) := by decide +kernel
theorem dX8_init_15 : decode cX8_init 15 = .ok (.putfield 13, 3) := by decide +kernel
theorem dX8_init_18 : decode cX8_init 18 = .ok (.aload_n 0, 1) := by decide +kernel
theorem dX8_init_19 : decode cX8_init 19 = .ok (.sipush 240, 3) := by decide +kernel
theorem dX8_init_22 : decode cX8_init 22 = .ok (.newarray .int, 2) := by decide +kernel
theorem dX8_init_24 : decode cX8_init 24 = .ok (.putfield 16, 3) := by decide +kernel
theorem dX8_init_27 : decode cX8_init 27 = .ok (.aload_n 0, 1) := by decide +kernel
theorem dX8_init_28 : decode cX8_init 28 = .ok (.bipush 60, 2) := by decide +kernel
theorem dX8_init_30 : decode cX8_init 30 = .ok (.newarray .int, 2) := by decide +kernel
theorem dX8_init_32 : decode cX8_init 32 = .ok (.putfield 19, 3) := by decide +kernel
theorem dX8_init_35 : decode cX8_init 35 = .ok (.aload_n 0, 1) := by decide +kernel
theorem dX8_init_36 : decode cX8_init 36 = .ok (.iconst 4, 1) := by decide +kernel
theorem dX8_init_37 : decode cX8_init 37 = .ok (.newarray .int, 2) := by decide +kernel
theorem dX8_init_39 : decode cX8_init 39 = .ok (.putfield 22, 3) := by decide +kernel
theorem dX8_init_42 : decode cX8_init 42 = .ok (.aload_n 0, 1) := by decide +kernel
theorem dX8_init_43 : decode cX8_init 43 = .ok (.sipush 160, 3) := by decide +kernel
theorem dX8_init_46 : decode cX8_init 46 = .ok (.newarray .int, 2) := by decide +kernel
theorem dX8_init_48 : decode cX8_init 48 = .ok (.putfield 25, 3) := by decide +kernel
theorem dX8_init_51 : decode cX8_init 51 = .ok (.aload_n 0, 1) := by decide +kernel
theorem dX8_init_52 : decode cX8_init 52 = .ok (.sipush 160, 3) := by decide +kernel
theorem dX8_init_55 : decode cX8_init 55 = .ok (.newarray .int, 2) := by decide +kernel
theorem dX8_init_57 : decode cX8_init 57 = .ok (.putfield 28, 3) := by decide +kernel
theorem dX8_init_60 : decode cX8_init 60 = .ok (.aload_n 0, 1) := by decide +kernel
theorem dX8_init_61 : decode cX8_init 61 = .ok (.sipush 160, 3) := by decide +kernel
theorem dX8_init_64 : decode cX8_init 64 = .ok (.newarray .int, 2) := by decide +kernel
theorem dX8_init_66 : decode cX8_init 66 = .ok (.putfield 31, 3) := by decide +kernel
theorem dX8_init_69 : decode cX8_init 69 = .ok (.aload_n 0, 1) := by decide +kernel
theorem dX8_init_70 : decode cX8_init 70 = .ok (.sipush 160, 3) := by decide +kernel
theorem dX8_init_73 : decode cX8_init 73 = .ok (.newarray .int, 2) := by decide +kernel
theorem dX8_init_75 : decode cX8_init 75 = .ok (.putfield 34, 3) := by decide +kernel
theorem dX8_init_78 : decode cX8_init 78 = .ok (.aload_n 0, 1) := by decide +kernel
theorem dX8_init_79 : decode cX8_init 79 = .ok (.bipush 84, 2) := by decide +kernel
theorem dX8_init_81 : decode cX8_init 81 = .ok (.newarray .int, 2) := by decide +kernel
theorem dX8_init_83 : decode cX8_init 83 = .ok (.putfield 37, 3) := by decide +kernel
theorem dX8_init_86 : decode cX8_init 86 = .ok (.aload_n 0, 1) := by decide +kernel
theorem dX8_init_87 : decode cX8_init 87 = .ok (.bipush 60, 2) := by decide +kernel
theorem dX8_init_89 : decode cX8_init 89 = .ok (.newarray .int, 2) := by decide +kernel
theorem dX8_init_91 : decode cX8_init 91 = .ok (.putfield 40, 3) := by decide +kernel
theorem dX8_init_94 : decode cX8_init 94 = .ok (.aload_n 0, 1) := by decide +kernel
theorem dX8_init_95 : decode cX8_init 95 = .ok (.bipush 7, 2) := by decide +kernel
theorem dX8_init_97 : decode cX8_init 97 = .ok (.newarray .int, 2) := by decide +kernel
theorem dX8_init_99 : decode cX8_init 99 = .ok (.putfield 43, 3) := by decide +kernel
theorem dX8_init_102 : decode cX8_init 102 = .ok (.aload_n 0, 1) := by decide +kernel
theorem dX8_init_103 : decode cX8_init 103 = .ok (.bipush 7, 2) := by decide +kernel
theorem dX8_init_105 : decode cX8_init 105 = .ok (.newarray .int, 2) := by decide +kernel
theorem dX8_init_107 : decode cX8_init 107 = .ok (.putfield 46, 3) := by decide +kernel
theorem dX8_init_110 : decode cX8_init 110 = .ok (.aload_n 0, 1) := by decide +kernel
theorem dX8_init_111 : decode cX8_init 111 = .ok (.sipush 1536, 3) := by decide +kernel
theorem dX8_init_114 : decode cX8_init 114 = .ok (.newarray .int, 2) := by decide +kernel
theorem dX8_init_116 : decode cX8_init 116 = .ok (.putfield 49, 3) := by decide +kernel
theorem dX8_init_119 : decode cX8_init 119 = .ok (.aload_n 0, 1) := by decide +kernel
theorem dX8_init_120 : decode cX8_init 120 = .ok (.bipush 7, 2) := by decide +kernel
theorem dX8_init_122 : decode cX8_init 122 = .ok (.newarray .int, 2) := by decide +kernel
theorem dX8_init_124 : decode cX8_init 124 = .ok (.putfield 52, 3) := by decide +kernel
theorem dX8_init_127 : decode cX8_init 127 = .ok (.aload_n 0, 1) := by decide +kernel
theorem dX8_init_128 : decode cX8_init 128 = .ok (.bipush 7, 2) := by decide +kernel
theorem dX8_init_130 : decode cX8_init 130 = .ok (.newarray .int, 2) := by decide +kernel
theorem dX8_init_132 : decode cX8_init 132 = .ok (.putfield 55, 3) := by decide +kernel
theorem dX8_init_135 : decode cX8_init 135 = .ok (.aload_n 0, 1) := by decide +kernel
theorem dX8_init_136 : decode cX8_init 136 = .ok (.sipush 128, 3) := by decide +kernel
theorem dX8_init_139 : decode cX8_init 139 = .ok (.newarray .int, 2) := by decide +kernel
theorem dX8_init_141 : decode cX8_init 141 = .ok (.putfield 58, 3) := by decide +kernel
theorem dX8_init_144 : decode cX8_init 144 = .ok (.aload_n 0, 1) := by decide +kernel
theorem dX8_init_145 : decode cX8_init 145 = .ok (.bipush 14, 2) := by decide +kernel
theorem dX8_init_147 : decode cX8_init 147 = .ok (.newarray .int, 2) := by decide +kernel
theorem dX8_init_149 : decode cX8_init 149 = .ok (.putfield 61, 3) := by decide +kernel
theorem dX8_init_152 : decode cX8_init 152 = .ok (.aload_n 0, 1) := by decide +kernel
theorem dX8_init_153 : decode cX8_init 153 = .ok (.bipush 7, 2) := by decide +kernel
theorem dX8_init_155 : decode cX8_init 155 = .ok (.newarray .int, 2) := by decide +kernel
theorem dX8_init_157 : decode cX8_init 157 = .ok (.putfield 64, 3) := by decide +kernel
theorem dX8_init_160 : decode cX8_init 160 = .ok (.aload_n 0, 1) := by decide +kernel
theorem dX8_init_161 : decode cX8_init 161 = .ok (.sipush 16384, 3) := by decide +kernel
theorem dX8_init_164 : decode cX8_init 164 = .ok (.newarray .int, 2) := by decide +kernel
theorem dX8_init_166 : decode cX8_init 166 = .ok (.putfield 67, 3) := by decide +kernel
theorem dX8_init_169 : decode cX8_init 169 = .ok (.aload_n 0, 1) := by decide +kernel
theorem dX8_init_170 : decode cX8_init 170 = .ok (.bipush 12, 2) := by decide +kernel
theorem dX8_init_172 : decode cX8_init 172 = .ok (.newarray .int, 2) := by decide +kernel
theorem dX8_init_174 : decode cX8_init 174 = .ok (.putfield 70, 3) := by decide +kernel
theorem dX8_init_177 : decode cX8_init 177 = .ok (.aload_n 0, 1) := by decide +kernel
theorem dX8_init_178 : decode cX8_init 178 = .ok (.bipush 7, 2) := by decide +kernel
theorem dX8_init_180 : decode cX8_init 180 = .ok (.newarray .int, 2) := by decide +kernel
theorem dX8_init_182 : decode cX8_init 182 = .ok (.putfield 73, 3) := by decide +kernel
theorem dX8_init_185 : decode cX8_init 185 = .ok (.iconst 0, 1) := by decide +kernel
theorem dX8_init_186 : decode cX8_init 186 = .ok (.istore_n 1, 1) := by decide +kernel
theorem dX8_init_187 : decode cX8_init 187 = .ok (.iload_n 1, 1) := by decide +kernel
theorem dX8_init_188 : decode cX8_init 188 = .ok (.iconst 4, 1) := by decide +kernel
theorem dX8_init_189 : decode cX8_init 189 = .ok (.if_icmp .ge 16, 3) := by decide +kernel
theorem dX8_init_192 : decode cX8_init 192 = .ok (.aload_n 0, 1) := by decide +kernel
theorem dX8_init_193 : decode cX8_init 193 = .ok (.getfield 7, 3) := by decide +kernel
theorem dX8_init_196 : decode cX8_init 196 = .ok (.iload_n 1, 1) := by decide +kernel
theorem dX8_init_197 : decode cX8_init 197 = .ok (.iconst (-1), 1) := by decide +kernel
theorem dX8_init_198 : decode cX8_init 198 = .ok (.iastore, 1) := by decide +kernel
theorem dX8_init_199 : decode cX8_init 199 = .ok (.iinc 1 1, 3) := by decide +kernel
theorem dX8_init_202 : decode cX8_init 202 = .ok (.goto (-15), 3) := by decide +kernel
theorem dX8_init_205 : decode cX8_init 205 = .ok (.aload_n 0, 1) := by decide +kernel
theorem dX8_init_206 : decode cX8_init 206 = .ok (.getfield 22, 3) := by decide +kernel
theorem dX8_init_209 : decode cX8_init 209 = .ok (.iconst 0, 1) := by decide +kernel
theorem dX8_init_210 : decode cX8_init 210 = .ok (.iconst 5, 1) := by decide +kernel
theorem dX8_init_211 : decode cX8_init 211 = .ok (.iastore, 1) := by decide +kernel
theorem dX8_init_212 : decode cX8_init 212 = .ok (.aload_n 0, 1) := by decide +kernel
theorem dX8_init_213 : decode cX8_init 213 = .ok (.getfield 22, 3) := by decide +kernel
theorem dX8_init_216 : decode cX8_init 216 = .ok (.iconst 1, 1) := by decide +kernel
theorem dX8_init_217 : decode cX8_init 217 = .ok (.sipush 999, 3) := by decide +kernel
theorem dX8_init_220 : decode cX8_init 220 = .ok (.iastore, 1) := by decide +kernel
theorem dX8_init_221 : decode cX8_init 221 = .ok (.return_, 1) := by decide +kernel
theorem dX8_in_0 : decode cX8_in 0 = .ok (.lload_n 0, 1) := by decide +kernel
theorem dX8_in_1 : decode cX8_in 1 = .ok (.lload_n 2, 1) := by decide +kernel
theorem dX8_in_2 : decode cX8_in 2 = .ok (.lcmp, 1) := by decide +kernel
theorem dX8_in_3 : decode cX8_in 3 = .ok (.ifCond .lt 14, 3) := by decide +kernel
theorem dX8_in_6 : decode cX8_in 6 = .ok (.lload_n 0, 1) := by decide +kernel
theorem dX8_in_7 : decode cX8_in 7 = .ok (.lload 4, 2) := by decide +kernel
theorem dX8_in_9 : decode cX8_in 9 = .ok (.lcmp, 1) := by decide +kernel
theorem dX8_in_10 : decode cX8_in 10 = .ok (.ifCond .gt 7, 3) := by decide +kernel
theorem dX8_in_13 : decode cX8_in 13 = .ok (.iconst 1, 1) := by decide +kernel
theorem dX8_in_14 : decode cX8_in 14 = .ok (.goto 4, 3) := by decide +kernel
theorem dX8_in_17 : decode cX8_in 17 = .ok (.iconst 0, 1) := by decide +kernel
theorem dX8_in_18 : decode cX8_in 18 = .ok (.ireturn, 1) := by decide +kernel
theorem dX8_no_0 : decode cX8_no 0 = .ok (.ldc2_w 76, 3) := by decide +kernel
theorem dX8_no_3 : decode cX8_no 3 = .ok (.iload_n 0, 1) := by decide +kernel
theorem dX8_no_4 : decode cX8_no 4 = .ok (.i2l, 1) := by decide +kernel
theorem dX8_no_5 : decode cX8_no 5 = .ok (.lsub, 1) := by decide +kernel
theorem dX8_no_6 : decode cX8_no 6 = .ok (.lreturn, 1) := by decide +kernel
theorem dX8_isTwo_0 : decode cX8_isTwo 0 = .ok (.iload_n 0, 1) := by decide +kernel
theorem dX8_isTwo_1 : decode cX8_isTwo 1 = .ok (.i2l, 1) := by decide +kernel
theorem dX8_isTwo_2 : decode cX8_isTwo 2 = .ok (.lconst 0, 1) := by decide +kernel
theorem dX8_isTwo_3 : decode cX8_isTwo 3 = .ok (.lconst 1, 1) := by decide +kernel
theorem dX8_isTwo_4 : decode cX8_isTwo 4 = .ok (.invokestatic 78, 3) := by decide +kernel
theorem dX8_isTwo_7 : decode cX8_isTwo 7 = .ok (.ireturn, 1) := by decide +kernel
theorem dX8_isIn_0 : decode cX8_isIn 0 = .ok (.iload_n 0, 1) := by decide +kernel
theorem dX8_isIn_1 : decode cX8_isIn 1 = .ok (.iload_n 1, 1) := by decide +kernel
theorem dX8_isIn_2 : decode cX8_isIn 2 = .ok (.ishr, 1) := by decide +kernel
theorem dX8_isIn_3 : decode cX8_isIn 3 = .ok (.iconst 1, 1) := by decide +kernel
theorem dX8_isIn_4 : decode cX8_isIn 4 = .ok (.iand, 1) := by decide +kernel
theorem dX8_isIn_5 : decode cX8_isIn 5 = .ok (.iconst 1, 1) := by decide +kernel
theorem dX8_isIn_6 : decode cX8_isIn 6 = .ok (.if_icmp .ne 7, 3) := by decide +kernel
theorem dX8_isIn_9 : decode cX8_isIn 9 = .ok (.iconst 1, 1) := by decide +kernel
theorem dX8_isIn_10 : decode cX8_isIn 10 = .ok (.goto 4, 3) := by decide +kernel
theorem dX8_isIn_13 : decode cX8_isIn 13 = .ok (.iconst 0, 1) := by decide +kernel
theorem dX8_isIn_14 : decode cX8_isIn 14 = .ok (.ireturn, 1) := by decide +kernel
theorem dX8_ones_0 : decode cX8_ones 0 = .ok (.iconst 0, 1) := by decide +kernel
theorem dX8_ones_1 : decode cX8_ones 1 = .ok (.istore_n 1, 1) := by decide +kernel
theorem dX8_ones_2 : decode cX8_ones 2 = .ok (.iload_n 0, 1) := by decide +kernel
theorem dX8_ones_3 : decode cX8_ones 3 = .ok (.istore_n 2, 1) := by decide +kernel
theorem dX8_ones_4 : decode cX8_ones 4 = .ok (.iload_n 2, 1) := by decide +kernel
theorem dX8_ones_5 : decode cX8_ones 5 = .ok (.ifCond .eq 15, 3) := by decide +kernel
theorem dX8_ones_8 : decode cX8_ones 8 = .ok (.iinc 1 1, 3) := by decide +kernel
theorem dX8_ones_11 : decode cX8_ones 11 = .ok (.iload_n 2, 1) := by decide +kernel
theorem dX8_ones_12 : decode cX8_ones 12 = .ok (.iload_n 2, 1) := by decide +kernel
theorem dX8_ones_13 : decode cX8_ones 13 = .ok (.iconst 1, 1) := by decide +kernel
theorem dX8_ones_14 : decode cX8_ones 14 = .ok (.isub, 1) := by decide +kernel
theorem dX8_ones_15 : decode cX8_ones 15 = .ok (.iand, 1) := by decide +kernel
theorem dX8_ones_16 : decode cX8_ones 16 = .ok (.istore_n 2, 1) := by decide +kernel
theorem dX8_ones_17 : decode cX8_ones 17 = .ok (.goto (-13), 3) := by decide +kernel
theorem dX8_ones_20 : decode cX8_ones 20 = .ok (.iload_n 1, 1) := by decide +kernel
theorem dX8_ones_21 : decode cX8_ones 21 = .ok (.ireturn, 1) := by decide +kernel
theorem dX8_met_0 : decode cX8_met 0 = .ok (.aload_n 0, 1) := by decide +kernel
theorem dX8_met_1 : decode cX8_met 1 = .ok (.iload_n 1, 1) := by decide +kernel
theorem dX8_met_2 : decode cX8_met 2 = .ok (.putfield 82, 3) := by decide +kernel
theorem dX8_met_5 : decode cX8_met 5 = .ok (.bipush (-10), 2) := by decide +kernel
theorem dX8_met_7 : decode cX8_met 7 = .ok (.iload_n 1, 1) := by decide +kernel
theorem dX8_met_8 : decode cX8_met 8 = .ok (.isub, 1) := by decide +kernel
theorem dX8_met_9 : decode cX8_met 9 = .ok (.ireturn, 1) := by decide +kernel
theorem dX8_isSheet_0 : decode cX8_isSheet 0 = .ok (.iload_n 0, 1) := by decide +kernel
theorem dX8_isSheet_1 : decode cX8_isSheet 1 = .ok (.i2l, 1) := by decide +kernel
theorem dX8_isSheet_2 : decode cX8_isSheet 2 = .ok (.lconst 0, 1) := by decide +kernel
theorem dX8_isSheet_3 : decode cX8_isSheet 3 = .ok (.ldc2_w 86, 3) := by decide +kernel
theorem dX8_isSheet_6 : decode cX8_isSheet 6 = .ok (.invokestatic 78, 3) := by decide +kernel
theorem dX8_isSheet_9 : decode cX8_isSheet 9 = .ok (.ireturn, 1) := by decide +kernel
theorem dX8_sheet_0 : decode cX8_sheet 0 = .ok (.iload_n 1, 1) := by decide +kernel
theorem dX8_sheet_1 : decode cX8_sheet 1 = .ok (.invokestatic 88, 3) := by decide +kernel
theorem dX8_sheet_4 : decode cX8_sheet 4 = .ok (.ifCond .eq 21, 3) := by decide +kernel
theorem dX8_sheet_7 : decode cX8_sheet 7 = .ok (.iload_n 2, 1) := by decide +kernel
theorem dX8_sheet_8 : decode cX8_sheet 8 = .ok (.i2l, 1) := by decide +kernel
theorem dX8_sheet_9 : decode cX8_sheet 9 = .ok (.lconst 0, 1) := by decide +kernel
theorem dX8_sheet_10 : decode cX8_sheet 10 = .ok (.ldc2_w 92, 3) := by decide +kernel
theorem dX8_sheet_13 : decode cX8_sheet 13 = .ok (.invokestatic 78, 3) := by decide +kernel
theorem dX8_sheet_16 : decode cX8_sheet 16 = .ok (.ifCond .eq 9, 3) := by decide +kernel
theorem dX8_sheet_19 : decode cX8_sheet 19 = .ok (.iload_n 3, 1) := by decide +kernel
theorem dX8_sheet_20 : decode cX8_sheet 20 = .ok (.bipush 60, 2) := by decide +kernel
theorem dX8_sheet_22 : decode cX8_sheet 22 = .ok (.if_icmp .le 6, 3) := by decide +kernel
theorem dX8_sheet_25 : decode cX8_sheet 25 = .ok (.bipush (-2), 2) := by decide +kernel
theorem dX8_sheet_27 : decode cX8_sheet 27 = .ok (.ireturn, 1) := by decide +kernel
theorem dX8_sheet_28 : decode cX8_sheet 28 = .ok (.iload_n 3, 1) := by decide +kernel
theorem dX8_sheet_29 : decode cX8_sheet 29 = .ok (.ifCond .ge 9, 3) := by decide +kernel
theorem dX8_sheet_32 : decode cX8_sheet 32 = .ok (.aload_n 0, 1) := by decide +kernel
theorem dX8_sheet_33 : decode cX8_sheet 33 = .ok (.iconst 5, 1) := by decide +kernel
theorem dX8_sheet_34 : decode cX8_sheet 34 = .ok (.invokevirtual 94, 3) := by decide +kernel
theorem dX8_sheet_37 : decode cX8_sheet 37 = .ok (.ireturn, 1) := by decide +kernel
theorem dX8_sheet_38 : decode cX8_sheet 38 = .ok (.aload_n 0, 1) := by decide +kernel
theorem dX8_sheet_39 : decode cX8_sheet 39 = .ok (.getfield 7, 3) := by decide +kernel
theorem dX8_sheet_42 : decode cX8_sheet 42 = .ok (.iload_n 1, 1) := by decide +kernel
theorem dX8_sheet_43 : decode cX8_sheet 43 = .ok (.iload_n 2, 1) := by decide +kernel
theorem dX8_sheet_44 : decode cX8_sheet 44 = .ok (.iastore, 1) := by decide +kernel
theorem dX8_sheet_45 : decode cX8_sheet 45 = .ok (.aload_n 0, 1) := by decide +kernel
theorem dX8_sheet_46 : decode cX8_sheet 46 = .ok (.getfield 13, 3) := by decide +kernel
theorem dX8_sheet_49 : decode cX8_sheet 49 = .ok (.iload_n 1, 1) := by decide +kernel
theorem dX8_sheet_50 : decode cX8_sheet 50 = .ok (.iload_n 3, 1) := by decide +kernel
theorem dX8_sheet_51 : decode cX8_sheet 51 = .ok (.iastore, 1) := by decide +kernel
theorem dX8_sheet_52 : decode cX8_sheet 52 = .ok (.iconst 0, 1) := by decide +kernel
theorem dX8_sheet_53 : decode cX8_sheet 53 = .ok (.istore 4, 2) := by decide +kernel
theorem dX8_sheet_55 : decode cX8_sheet 55 = .ok (.iload 4, 2) := by decide +kernel
theorem dX8_sheet_57 : decode cX8_sheet 57 = .ok (.iload_n 3, 1) := by decide +kernel
theorem dX8_sheet_58 : decode cX8_sheet 58 = .ok (.if_icmp .ge 22, 3) := by decide +kernel
theorem dX8_sheet_61 : decode cX8_sheet 61 = .ok (.aload_n 0, 1) := by decide +kernel
theorem dX8_sheet_62 : decode cX8_sheet 62 = .ok (.getfield 16, 3) := by decide +kernel
theorem dX8_sheet_65 : decode cX8_sheet 65 = .ok (.bipush 60, 2) := by decide +kernel
theorem dX8_sheet_67 : decode cX8_sheet 67 = .ok (.iload_n 1, 1) := by decide +kernel
theorem dX8_sheet_68 : decode cX8_sheet 68 = .ok (.imul, 1) := by decide +kernel
theorem dX8_sheet_69 : decode cX8_sheet 69 = .ok (.iload 4, 2) := by decide +kernel
theorem dX8_sheet_71 : decode cX8_sheet 71 = .ok (.iadd, 1) := by decide +kernel
theorem dX8_sheet_72 : decode cX8_sheet 72 = .ok (.iconst 0, 1) := by decide +kernel
theorem dX8_sheet_73 : decode cX8_sheet 73 = .ok (.iastore, 1) := by decide +kernel
theorem dX8_sheet_74 : decode cX8_sheet 74 = .ok (.iinc 4 1, 3) := by decide +kernel
theorem dX8_sheet_77 : decode cX8_sheet 77 = .ok (.goto (-22), 3) := by decide +kernel
theorem dX8_sheet_80 : decode cX8_sheet 80 = .ok (.iload_n 3, 1) := by decide +kernel
theorem dX8_sheet_81 : decode cX8_sheet 81 = .ok (.ireturn, 1) := by decide +kernel
theorem dX8_lose_0 : decode cX8_lose 0 = .ok (.iload_n 1, 1) := by decide +kernel
theorem dX8_lose_1 : decode cX8_lose 1 = .ok (.invokestatic 88, 3) := by decide +kernel
theorem dX8_lose_4 : decode cX8_lose 4 = .ok (.ifCond .ne 6, 3) := by decide +kernel
theorem dX8_lose_7 : decode cX8_lose 7 = .ok (.bipush (-2), 2) := by decide +kernel
theorem dX8_lose_9 : decode cX8_lose 9 = .ok (.ireturn, 1) := by decide +kernel
theorem dX8_lose_10 : decode cX8_lose 10 = .ok (.aload_n 0, 1) := by decide +kernel
theorem dX8_lose_11 : decode cX8_lose 11 = .ok (.getfield 7, 3) := by decide +kernel
theorem dX8_lose_14 : decode cX8_lose 14 = .ok (.iload_n 1, 1) := by decide +kernel
theorem dX8_lose_15 : decode cX8_lose 15 = .ok (.iaload, 1) := by decide +kernel
theorem dX8_lose_16 : decode cX8_lose 16 = .ok (.ifCond .ge 9, 3) := by decide +kernel
theorem dX8_lose_19 : decode cX8_lose 19 = .ok (.aload_n 0, 1) := by decide +kernel
theorem dX8_lose_20 : decode cX8_lose 20 = .ok (.iconst 1, 1) := by decide +kernel
theorem dX8_lose_21 : decode cX8_lose 21 = .ok (.invokevirtual 94, 3) := by decide +kernel
theorem dX8_lose_24 : decode cX8_lose 24 = .ok (.ireturn, 1) := by decide +kernel
theorem dX8_lose_25 : decode cX8_lose 25 = .ok (.aload_n 0, 1) := by decide +kernel
theorem dX8_lose_26 : decode cX8_lose 26 = .ok (.getfield 7, 3) := by decide +kernel
theorem dX8_lose_29 : decode cX8_lose 29 = .ok (.iload_n 1, 1) := by decide +kernel
theorem dX8_lose_30 : decode cX8_lose 30 = .ok (.iconst (-1), 1) := by decide +kernel
theorem dX8_lose_31 : decode cX8_lose 31 = .ok (.iastore, 1) := by decide +kernel
theorem dX8_lose_32 : decode cX8_lose 32 = .ok (.aload_n 0, 1) := by decide +kernel
theorem dX8_lose_33 : decode cX8_lose 33 = .ok (.getfield 13, 3) := by decide +kernel
theorem dX8_lose_36 : decode cX8_lose 36 = .ok (.iload_n 1, 1) := by decide +kernel
theorem dX8_lose_37 : decode cX8_lose 37 = .ok (.iaload, 1) := by decide +kernel
theorem dX8_lose_38 : decode cX8_lose 38 = .ok (.ireturn, 1) := by decide +kernel
theorem dX8_lacks_0 : decode cX8_lacks 0 = .ok (.aload_n 0, 1) := by decide +kernel
theorem dX8_lacks_1 : decode cX8_lacks 1 = .ok (.getfield 7, 3) := by decide +kernel
theorem dX8_lacks_4 : decode cX8_lacks 4 = .ok (.iload_n 1, 1) := by decide +kernel
theorem dX8_lacks_5 : decode cX8_lacks 5 = .ok (.iaload, 1) := by decide +kernel
theorem dX8_lacks_6 : decode cX8_lacks 6 = .ok (.ifCond .ge 9, 3) := by decide +kernel
theorem dX8_lacks_9 : decode cX8_lacks 9 = .ok (.aload_n 0, 1) := by decide +kernel
theorem dX8_lacks_10 : decode cX8_lacks 10 = .ok (.iconst 1, 1) := by decide +kernel
theorem dX8_lacks_11 : decode cX8_lacks 11 = .ok (.invokevirtual 94, 3) := by decide +kernel
theorem dX8_lacks_14 : decode cX8_lacks 14 = .ok (.ireturn, 1) := by decide +kernel
theorem dX8_lacks_15 : decode cX8_lacks 15 = .ok (.aload_n 0, 1) := by decide +kernel
theorem dX8_lacks_16 : decode cX8_lacks 16 = .ok (.getfield 7, 3) := by decide +kernel
theorem dX8_lacks_19 : decode cX8_lacks 19 = .ok (.iload_n 1, 1) := by decide +kernel
theorem dX8_lacks_20 : decode cX8_lacks 20 = .ok (.iaload, 1) := by decide +kernel
theorem dX8_lacks_21 : decode cX8_lacks 21 = .ok (.iload_n 2, 1) := by decide +kernel
theorem dX8_lacks_22 : decode cX8_lacks 22 = .ok (.if_icmp .eq 9, 3) := by decide +kernel
theorem dX8_lacks_25 : decode cX8_lacks 25 = .ok (.aload_n 0, 1) := by decide +kernel
theorem dX8_lacks_26 : decode cX8_lacks 26 = .ok (.iconst 3, 1) := by decide +kernel
theorem dX8_lacks_27 : decode cX8_lacks 27 = .ok (.invokevirtual 94, 3) := by decide +kernel
theorem dX8_lacks_30 : decode cX8_lacks 30 = .ok (.ireturn, 1) := by decide +kernel
theorem dX8_lacks_31 : decode cX8_lacks 31 = .ok (.iload_n 3, 1) := by decide +kernel
theorem dX8_lacks_32 : decode cX8_lacks 32 = .ok (.i2l, 1) := by decide +kernel
theorem dX8_lacks_33 : decode cX8_lacks 33 = .ok (.lconst 0, 1) := by decide +kernel
theorem dX8_lacks_34 : decode cX8_lacks 34 = .ok (.aload_n 0, 1) := by decide +kernel
theorem dX8_lacks_35 : decode cX8_lacks 35 = .ok (.getfield 13, 3) := by decide +kernel
theorem dX8_lacks_38 : decode cX8_lacks 38 = .ok (.iload_n 1, 1) := by decide +kernel
theorem dX8_lacks_39 : decode cX8_lacks 39 = .ok (.iaload, 1) := by decide +kernel
theorem dX8_lacks_40 : decode cX8_lacks 40 = .ok (.iconst 1, 1) := by decide +kernel
theorem dX8_lacks_41 : decode cX8_lacks 41 = .ok (.isub, 1) := by decide +kernel
theorem dX8_lacks_42 : decode cX8_lacks 42 = .ok (.i2l, 1) := by decide +kernel
theorem dX8_lacks_43 : decode cX8_lacks 43 = .ok (.invokestatic 78, 3) := by decide +kernel
theorem dX8_lacks_46 : decode cX8_lacks 46 = .ok (.ifCond .eq 7, 3) := by decide +kernel
theorem dX8_lacks_49 : decode cX8_lacks 49 = .ok (.iconst 0, 1) := by decide +kernel
theorem dX8_lacks_50 : decode cX8_lacks 50 = .ok (.goto 8, 3) := by decide +kernel
theorem dX8_lacks_53 : decode cX8_lacks 53 = .ok (.aload_n 0, 1) := by decide +kernel
theorem dX8_lacks_54 : decode cX8_lacks 54 = .ok (.iconst 2, 1) := by decide +kernel
theorem dX8_lacks_55 : decode cX8_lacks 55 = .ok (.invokevirtual 94, 3) := by decide +kernel
theorem dX8_lacks_58 : decode cX8_lacks 58 = .ok (.ireturn, 1) := by decide +kernel
theorem dX8_cut_0 : decode cX8_cut 0 = .ok (.iload_n 0, 1) := by decide +kernel
theorem dX8_cut_1 : decode cX8_cut 1 = .ok (.ifCond .ne 8, 3) := by decide +kernel
theorem dX8_cut_4 : decode cX8_cut 4 = .ok (.iload_n 1, 1) := by decide +kernel
theorem dX8_cut_5 : decode cX8_cut 5 = .ok (.i2b, 1) := by decide +kernel
theorem dX8_cut_6 : decode cX8_cut 6 = .ok (.goto 14, 3) := by decide +kernel
theorem dX8_cut_9 : decode cX8_cut 9 = .ok (.iload_n 0, 1) := by decide +kernel
theorem dX8_cut_10 : decode cX8_cut 10 = .ok (.iconst 1, 1) := by decide +kernel
theorem dX8_cut_11 : decode cX8_cut 11 = .ok (.if_icmp .ne 8, 3) := by decide +kernel
theorem dX8_cut_14 : decode cX8_cut 14 = .ok (.iload_n 1, 1) := by decide +kernel
theorem dX8_cut_15 : decode cX8_cut 15 = .ok (.i2s, 1) := by decide +kernel
theorem dX8_cut_16 : decode cX8_cut 16 = .ok (.goto 4, 3) := by decide +kernel
theorem dX8_cut_19 : decode cX8_cut 19 = .ok (.iload_n 1, 1) := by decide +kernel
theorem dX8_cut_20 : decode cX8_cut 20 = .ok (.ireturn, 1) := by decide +kernel
theorem dX8_lay_0 : decode cX8_lay 0 = .ok (.iload_n 1, 1) := by decide +kernel
theorem dX8_lay_1 : decode cX8_lay 1 = .ok (.invokestatic 88, 3) := by decide +kernel
theorem dX8_lay_4 : decode cX8_lay 4 = .ok (.ifCond .eq 15, 3) := by decide +kernel
theorem dX8_lay_7 : decode cX8_lay 7 = .ok (.iload_n 2, 1) := by decide +kernel
theorem dX8_lay_8 : decode cX8_lay 8 = .ok (.i2l, 1) := by decide +kernel
theorem dX8_lay_9 : decode cX8_lay 9 = .ok (.lconst 0, 1) := by decide +kernel
theorem dX8_lay_10 : decode cX8_lay 10 = .ok (.ldc2_w 92, 3) := by decide +kernel
theorem dX8_lay_13 : decode cX8_lay 13 = .ok (.invokestatic 78, 3) := by decide +kernel
theorem dX8_lay_16 : decode cX8_lay 16 = .ok (.ifCond .ne 6, 3) := by decide +kernel
theorem dX8_lay_19 : decode cX8_lay 19 = .ok (.bipush (-2), 2) := by decide +kernel
theorem dX8_lay_21 : decode cX8_lay 21 = .ok (.ireturn, 1) := by decide +kernel
theorem dX8_lay_22 : decode cX8_lay 22 = .ok (.aload_n 0, 1) := by decide +kernel
theorem dX8_lay_23 : decode cX8_lay 23 = .ok (.iload_n 1, 1) := by decide +kernel
theorem dX8_lay_24 : decode cX8_lay 24 = .ok (.iload_n 2, 1) := by decide +kernel
theorem dX8_lay_25 : decode cX8_lay 25 = .ok (.iload_n 3, 1) := by decide +kernel
theorem dX8_lay_26 : decode cX8_lay 26 = .ok (.invokevirtual 98, 3) := by decide +kernel
theorem dX8_lay_29 : decode cX8_lay 29 = .ok (.istore 5, 2) := by decide +kernel
theorem dX8_lay_31 : decode cX8_lay 31 = .ok (.iload 5, 2) := by decide +kernel
theorem dX8_lay_33 : decode cX8_lay 33 = .ok (.ifCond .eq 6, 3) := by decide +kernel
theorem dX8_lay_36 : decode cX8_lay 36 = .ok (.iload 5, 2) := by decide +kernel
theorem dX8_lay_38 : decode cX8_lay 38 = .ok (.ireturn, 1) := by decide +kernel
theorem dX8_lay_39 : decode cX8_lay 39 = .ok (.aload_n 0, 1) := by decide +kernel
theorem dX8_lay_40 : decode cX8_lay 40 = .ok (.getfield 16, 3) := by decide +kernel
theorem dX8_lay_43 : decode cX8_lay 43 = .ok (.bipush 60, 2) := by decide +kernel
theorem dX8_lay_45 : decode cX8_lay 45 = .ok (.iload_n 1, 1) := by decide +kernel
theorem dX8_lay_46 : decode cX8_lay 46 = .ok (.imul, 1) := by decide +kernel
theorem dX8_lay_47 : decode cX8_lay 47 = .ok (.iload_n 3, 1) := by decide +kernel
theorem dX8_lay_48 : decode cX8_lay 48 = .ok (.iadd, 1) := by decide +kernel
theorem dX8_lay_49 : decode cX8_lay 49 = .ok (.iload_n 2, 1) := by decide +kernel
theorem dX8_lay_50 : decode cX8_lay 50 = .ok (.iload 4, 2) := by decide +kernel
theorem dX8_lay_52 : decode cX8_lay 52 = .ok (.invokestatic 102, 3) := by decide +kernel
theorem dX8_lay_55 : decode cX8_lay 55 = .ok (.iastore, 1) := by decide +kernel
theorem dX8_lay_56 : decode cX8_lay 56 = .ok (.iconst 1, 1) := by decide +kernel
theorem dX8_lay_57 : decode cX8_lay 57 = .ok (.ireturn, 1) := by decide +kernel
theorem dX8_get_0 : decode cX8_get 0 = .ok (.iload_n 1, 1) := by decide +kernel
theorem dX8_get_1 : decode cX8_get 1 = .ok (.invokestatic 88, 3) := by decide +kernel
theorem dX8_get_4 : decode cX8_get 4 = .ok (.ifCond .eq 25, 3) := by decide +kernel
theorem dX8_get_7 : decode cX8_get 7 = .ok (.iload_n 2, 1) := by decide +kernel
theorem dX8_get_8 : decode cX8_get 8 = .ok (.i2l, 1) := by decide +kernel
theorem dX8_get_9 : decode cX8_get 9 = .ok (.lconst 0, 1) := by decide +kernel
theorem dX8_get_10 : decode cX8_get 10 = .ok (.ldc2_w 92, 3) := by decide +kernel
theorem dX8_get_13 : decode cX8_get 13 = .ok (.invokestatic 78, 3) := by decide +kernel
theorem dX8_get_16 : decode cX8_get 16 = .ok (.ifCond .eq 13, 3) := by decide +kernel
theorem dX8_get_19 : decode cX8_get 19 = .ok (.aload_n 0, 1) := by decide +kernel
theorem dX8_get_20 : decode cX8_get 20 = .ok (.iload_n 1, 1) := by decide +kernel
theorem dX8_get_21 : decode cX8_get 21 = .ok (.iload_n 2, 1) := by decide +kernel
theorem dX8_get_22 : decode cX8_get 22 = .ok (.iload_n 3, 1) := by decide +kernel
theorem dX8_get_23 : decode cX8_get 23 = .ok (.invokevirtual 98, 3) := by decide +kernel
theorem dX8_get_26 : decode cX8_get 26 = .ok (.ifCond .eq 6, 3) := by decide +kernel
theorem dX8_get_29 : decode cX8_get 29 = .ok (.ldc 106, 2) := by decide +kernel
theorem dX8_get_31 : decode cX8_get 31 = .ok (.ireturn, 1) := by decide +kernel
theorem dX8_get_32 : decode cX8_get 32 = .ok (.aload_n 0, 1) := by decide +kernel
theorem dX8_get_33 : decode cX8_get 33 = .ok (.getfield 16, 3) := by decide +kernel
theorem dX8_get_36 : decode cX8_get 36 = .ok (.bipush 60, 2) := by decide +kernel
theorem dX8_get_38 : decode cX8_get 38 = .ok (.iload_n 1, 1) := by decide +kernel
theorem dX8_get_39 : decode cX8_get 39 = .ok (.imul, 1) := by decide +kernel
theorem dX8_get_40 : decode cX8_get 40 = .ok (.iload_n 3, 1) := by decide +kernel
theorem dX8_get_41 : decode cX8_get 41 = .ok (.iadd, 1) := by decide +kernel
theorem dX8_get_42 : decode cX8_get 42 = .ok (.iaload, 1) := by decide +kernel
theorem dX8_get_43 : decode cX8_get 43 = .ok (.ireturn, 1) := by decide +kernel
theorem dX8_copy_0 : decode cX8_copy 0 = .ok (.iload_n 1, 1) := by decide +kernel
theorem dX8_copy_1 : decode cX8_copy 1 = .ok (.invokestatic 88, 3) := by decide +kernel
theorem dX8_copy_4 : decode cX8_copy 4 = .ok (.ifCond .eq 10, 3) := by decide +kernel
theorem dX8_copy_7 : decode cX8_copy 7 = .ok (.iload_n 3, 1) := by decide +kernel
theorem dX8_copy_8 : decode cX8_copy 8 = .ok (.invokestatic 88, 3) := by decide +kernel
theorem dX8_copy_11 : decode cX8_copy 11 = .ok (.ifCond .ne 6, 3) := by decide +kernel
theorem dX8_copy_14 : decode cX8_copy 14 = .ok (.bipush (-2), 2) := by decide +kernel
theorem dX8_copy_16 : decode cX8_copy 16 = .ok (.ireturn, 1) := by decide +kernel
theorem dX8_copy_17 : decode cX8_copy 17 = .ok (.aload_n 0, 1) := by decide +kernel
theorem dX8_copy_18 : decode cX8_copy 18 = .ok (.getfield 7, 3) := by decide +kernel
theorem dX8_copy_21 : decode cX8_copy 21 = .ok (.iload_n 1, 1) := by decide +kernel
theorem dX8_copy_22 : decode cX8_copy 22 = .ok (.iaload, 1) := by decide +kernel
theorem dX8_copy_23 : decode cX8_copy 23 = .ok (.ifCond .lt 12, 3) := by decide +kernel
theorem dX8_copy_26 : decode cX8_copy 26 = .ok (.aload_n 0, 1) := by decide +kernel
theorem dX8_copy_27 : decode cX8_copy 27 = .ok (.getfield 7, 3) := by decide +kernel
theorem dX8_copy_30 : decode cX8_copy 30 = .ok (.iload_n 3, 1) := by decide +kernel
theorem dX8_copy_31 : decode cX8_copy 31 = .ok (.iaload, 1) := by decide +kernel
theorem dX8_copy_32 : decode cX8_copy 32 = .ok (.ifCond .ge 9, 3) := by decide +kernel
end
section
theorem dX8_copy_35 : decode cX8_copy 35 = .ok (.aload_n 0, 1) := by decide +kernel
theorem dX8_copy_36 : decode cX8_copy 36 = .ok (.iconst 1, 1) := by decide +kernel
theorem dX8_copy_37 : decode cX8_copy 37 = .ok (.invokevirtual 94, 3) := by decide +kernel
theorem dX8_copy_40 : decode cX8_copy 40 = .ok (.ireturn, 1) := by decide +kernel
theorem dX8_copy_41 : decode cX8_copy 41 = .ok (.aload_n 0, 1) := by decide +kernel
theorem dX8_copy_42 : decode cX8_copy 42 = .ok (.getfield 7, 3) := by decide +kernel
theorem dX8_copy_45 : decode cX8_copy 45 = .ok (.iload_n 1, 1) := by decide +kernel
theorem dX8_copy_46 : decode cX8_copy 46 = .ok (.iaload, 1) := by decide +kernel
theorem dX8_copy_47 : decode cX8_copy 47 = .ok (.aload_n 0, 1) := by decide +kernel
theorem dX8_copy_48 : decode cX8_copy 48 = .ok (.getfield 7, 3) := by decide +kernel
theorem dX8_copy_51 : decode cX8_copy 51 = .ok (.iload_n 3, 1) := by decide +kernel
theorem dX8_copy_52 : decode cX8_copy 52 = .ok (.iaload, 1) := by decide +kernel
theorem dX8_copy_53 : decode cX8_copy 53 = .ok (.if_icmp .eq 9, 3) := by decide +kernel
theorem dX8_copy_56 : decode cX8_copy 56 = .ok (.aload_n 0, 1) := by decide +kernel
theorem dX8_copy_57 : decode cX8_copy 57 = .ok (.iconst 4, 1) := by decide +kernel
theorem dX8_copy_58 : decode cX8_copy 58 = .ok (.invokevirtual 94, 3) := by decide +kernel
theorem dX8_copy_61 : decode cX8_copy 61 = .ok (.ireturn, 1) := by decide +kernel
theorem dX8_copy_62 : decode cX8_copy 62 = .ok (.iload_n 2, 1) := by decide +kernel
theorem dX8_copy_63 : decode cX8_copy 63 = .ok (.ifCond .lt 48, 3) := by decide +kernel
theorem dX8_copy_66 : decode cX8_copy 66 = .ok (.iload 4, 2) := by decide +kernel
theorem dX8_copy_68 : decode cX8_copy 68 = .ok (.ifCond .lt 43, 3) := by decide +kernel
theorem dX8_copy_71 : decode cX8_copy 71 = .ok (.iload 5, 2) := by decide +kernel
theorem dX8_copy_73 : decode cX8_copy 73 = .ok (.ifCond .lt 38, 3) := by decide +kernel
theorem dX8_copy_76 : decode cX8_copy 76 = .ok (.iload_n 2, 1) := by decide +kernel
theorem dX8_copy_77 : decode cX8_copy 77 = .ok (.i2l, 1) := by decide +kernel
theorem dX8_copy_78 : decode cX8_copy 78 = .ok (.iload 5, 2) := by decide +kernel
theorem dX8_copy_80 : decode cX8_copy 80 = .ok (.i2l, 1) := by decide +kernel
theorem dX8_copy_81 : decode cX8_copy 81 = .ok (.ladd, 1) := by decide +kernel
theorem dX8_copy_82 : decode cX8_copy 82 = .ok (.aload_n 0, 1) := by decide +kernel
theorem dX8_copy_83 : decode cX8_copy 83 = .ok (.getfield 13, 3) := by decide +kernel
theorem dX8_copy_86 : decode cX8_copy 86 = .ok (.iload_n 1, 1) := by decide +kernel
theorem dX8_copy_87 : decode cX8_copy 87 = .ok (.iaload, 1) := by decide +kernel
theorem dX8_copy_88 : decode cX8_copy 88 = .ok (.i2l, 1) := by decide +kernel
theorem dX8_copy_89 : decode cX8_copy 89 = .ok (.lcmp, 1) := by decide +kernel
theorem dX8_copy_90 : decode cX8_copy 90 = .ok (.ifCond .gt 21, 3) := by decide +kernel
theorem dX8_copy_93 : decode cX8_copy 93 = .ok (.iload 4, 2) := by decide +kernel
theorem dX8_copy_95 : decode cX8_copy 95 = .ok (.i2l, 1) := by decide +kernel
theorem dX8_copy_96 : decode cX8_copy 96 = .ok (.iload 5, 2) := by decide +kernel
theorem dX8_copy_98 : decode cX8_copy 98 = .ok (.i2l, 1) := by decide +kernel
theorem dX8_copy_99 : decode cX8_copy 99 = .ok (.ladd, 1) := by decide +kernel
theorem dX8_copy_100 : decode cX8_copy 100 = .ok (.aload_n 0, 1) := by decide +kernel
theorem dX8_copy_101 : decode cX8_copy 101 = .ok (.getfield 13, 3) := by decide +kernel
theorem dX8_copy_104 : decode cX8_copy 104 = .ok (.iload_n 3, 1) := by decide +kernel
theorem dX8_copy_105 : decode cX8_copy 105 = .ok (.iaload, 1) := by decide +kernel
theorem dX8_copy_106 : decode cX8_copy 106 = .ok (.i2l, 1) := by decide +kernel
theorem dX8_copy_107 : decode cX8_copy 107 = .ok (.lcmp, 1) := by decide +kernel
theorem dX8_copy_108 : decode cX8_copy 108 = .ok (.ifCond .le 9, 3) := by decide +kernel
theorem dX8_copy_111 : decode cX8_copy 111 = .ok (.aload_n 0, 1) := by decide +kernel
theorem dX8_copy_112 : decode cX8_copy 112 = .ok (.iconst 2, 1) := by decide +kernel
theorem dX8_copy_113 : decode cX8_copy 113 = .ok (.invokevirtual 94, 3) := by decide +kernel
theorem dX8_copy_116 : decode cX8_copy 116 = .ok (.ireturn, 1) := by decide +kernel
theorem dX8_copy_117 : decode cX8_copy 117 = .ok (.iconst 0, 1) := by decide +kernel
theorem dX8_copy_118 : decode cX8_copy 118 = .ok (.istore 6, 2) := by decide +kernel
theorem dX8_copy_120 : decode cX8_copy 120 = .ok (.iload 6, 2) := by decide +kernel
theorem dX8_copy_122 : decode cX8_copy 122 = .ok (.iload 5, 2) := by decide +kernel
theorem dX8_copy_124 : decode cX8_copy 124 = .ok (.if_icmp .ge 30, 3) := by decide +kernel
theorem dX8_copy_127 : decode cX8_copy 127 = .ok (.aload_n 0, 1) := by decide +kernel
theorem dX8_copy_128 : decode cX8_copy 128 = .ok (.getfield 19, 3) := by decide +kernel
theorem dX8_copy_131 : decode cX8_copy 131 = .ok (.iload 6, 2) := by decide +kernel
theorem dX8_copy_133 : decode cX8_copy 133 = .ok (.aload_n 0, 1) := by decide +kernel
theorem dX8_copy_134 : decode cX8_copy 134 = .ok (.getfield 16, 3) := by decide +kernel
theorem dX8_copy_137 : decode cX8_copy 137 = .ok (.bipush 60, 2) := by decide +kernel
theorem dX8_copy_139 : decode cX8_copy 139 = .ok (.iload_n 1, 1) := by decide +kernel
theorem dX8_copy_140 : decode cX8_copy 140 = .ok (.imul, 1) := by decide +kernel
theorem dX8_copy_141 : decode cX8_copy 141 = .ok (.iload_n 2, 1) := by decide +kernel
theorem dX8_copy_142 : decode cX8_copy 142 = .ok (.iadd, 1) := by decide +kernel
theorem dX8_copy_143 : decode cX8_copy 143 = .ok (.iload 6, 2) := by decide +kernel
theorem dX8_copy_145 : decode cX8_copy 145 = .ok (.iadd, 1) := by decide +kernel
theorem dX8_copy_146 : decode cX8_copy 146 = .ok (.iaload, 1) := by decide +kernel
theorem dX8_copy_147 : decode cX8_copy 147 = .ok (.iastore, 1) := by decide +kernel
theorem dX8_copy_148 : decode cX8_copy 148 = .ok (.iinc 6 1, 3) := by decide +kernel
theorem dX8_copy_151 : decode cX8_copy 151 = .ok (.goto (-31), 3) := by decide +kernel
theorem dX8_copy_154 : decode cX8_copy 154 = .ok (.iconst 0, 1) := by decide +kernel
theorem dX8_copy_155 : decode cX8_copy 155 = .ok (.istore 6, 2) := by decide +kernel
theorem dX8_copy_157 : decode cX8_copy 157 = .ok (.iload 6, 2) := by decide +kernel
theorem dX8_copy_159 : decode cX8_copy 159 = .ok (.iload 5, 2) := by decide +kernel
theorem dX8_copy_161 : decode cX8_copy 161 = .ok (.if_icmp .ge 31, 3) := by decide +kernel
theorem dX8_copy_164 : decode cX8_copy 164 = .ok (.aload_n 0, 1) := by decide +kernel
theorem dX8_copy_165 : decode cX8_copy 165 = .ok (.getfield 16, 3) := by decide +kernel
theorem dX8_copy_168 : decode cX8_copy 168 = .ok (.bipush 60, 2) := by decide +kernel
theorem dX8_copy_170 : decode cX8_copy 170 = .ok (.iload_n 3, 1) := by decide +kernel
theorem dX8_copy_171 : decode cX8_copy 171 = .ok (.imul, 1) := by decide +kernel
theorem dX8_copy_172 : decode cX8_copy 172 = .ok (.iload 4, 2) := by decide +kernel
theorem dX8_copy_174 : decode cX8_copy 174 = .ok (.iadd, 1) := by decide +kernel
theorem dX8_copy_175 : decode cX8_copy 175 = .ok (.iload 6, 2) := by decide +kernel
theorem dX8_copy_177 : decode cX8_copy 177 = .ok (.iadd, 1) := by decide +kernel
theorem dX8_copy_178 : decode cX8_copy 178 = .ok (.aload_n 0, 1) := by decide +kernel
theorem dX8_copy_179 : decode cX8_copy 179 = .ok (.getfield 19, 3) := by decide +kernel
theorem dX8_copy_182 : decode cX8_copy 182 = .ok (.iload 6, 2) := by decide +kernel
theorem dX8_copy_184 : decode cX8_copy 184 = .ok (.iaload, 1) := by decide +kernel
theorem dX8_copy_185 : decode cX8_copy 185 = .ok (.iastore, 1) := by decide +kernel
theorem dX8_copy_186 : decode cX8_copy 186 = .ok (.iinc 6 1, 3) := by decide +kernel
theorem dX8_copy_189 : decode cX8_copy 189 = .ok (.goto (-32), 3) := by decide +kernel
theorem dX8_copy_192 : decode cX8_copy 192 = .ok (.iconst 1, 1) := by decide +kernel
theorem dX8_copy_193 : decode cX8_copy 193 = .ok (.ireturn, 1) := by decide +kernel
theorem dX8_isPupil_0 : decode cX8_isPupil 0 = .ok (.iload_n 0, 1) := by decide +kernel
theorem dX8_isPupil_1 : decode cX8_isPupil 1 = .ok (.i2l, 1) := by decide +kernel
theorem dX8_isPupil_2 : decode cX8_isPupil 2 = .ok (.lconst 0, 1) := by decide +kernel
theorem dX8_isPupil_3 : decode cX8_isPupil 3 = .ok (.ldc2_w 107, 3) := by decide +kernel
theorem dX8_isPupil_6 : decode cX8_isPupil 6 = .ok (.invokestatic 78, 3) := by decide +kernel
theorem dX8_isPupil_9 : decode cX8_isPupil 9 = .ok (.ireturn, 1) := by decide +kernel
theorem dX8_isAny_0 : decode cX8_isAny 0 = .ok (.iload_n 0, 1) := by decide +kernel
theorem dX8_isAny_1 : decode cX8_isAny 1 = .ok (.i2l, 1) := by decide +kernel
theorem dX8_isAny_2 : decode cX8_isAny 2 = .ok (.lconst 0, 1) := by decide +kernel
theorem dX8_isAny_3 : decode cX8_isAny 3 = .ok (.ldc2_w 109, 3) := by decide +kernel
theorem dX8_isAny_6 : decode cX8_isAny 6 = .ok (.invokestatic 78, 3) := by decide +kernel
theorem dX8_isAny_9 : decode cX8_isAny 9 = .ok (.ireturn, 1) := by decide +kernel
theorem dX8_n_0 : decode cX8_n 0 = .ok (.aload_n 0, 1) := by decide +kernel
theorem dX8_n_1 : decode cX8_n 1 = .ok (.getfield 22, 3) := by decide +kernel
theorem dX8_n_4 : decode cX8_n 4 = .ok (.iconst 0, 1) := by decide +kernel
theorem dX8_n_5 : decode cX8_n 5 = .ok (.iaload, 1) := by decide +kernel
theorem dX8_n_6 : decode cX8_n 6 = .ok (.ireturn, 1) := by decide +kernel
theorem dX8_isQuestion_0 : decode cX8_isQuestion 0 = .ok (.iload_n 1, 1) := by decide +kernel
theorem dX8_isQuestion_1 : decode cX8_isQuestion 1 = .ok (.i2l, 1) := by decide +kernel
theorem dX8_isQuestion_2 : decode cX8_isQuestion 2 = .ok (.lconst 0, 1) := by decide +kernel
theorem dX8_isQuestion_3 : decode cX8_isQuestion 3 = .ok (.aload_n 0, 1) := by decide +kernel
theorem dX8_isQuestion_4 : decode cX8_isQuestion 4 = .ok (.invokevirtual 111, 3) := by decide +kernel
theorem dX8_isQuestion_7 : decode cX8_isQuestion 7 = .ok (.iconst 1, 1) := by decide +kernel
theorem dX8_isQuestion_8 : decode cX8_isQuestion 8 = .ok (.isub, 1) := by decide +kernel
theorem dX8_isQuestion_9 : decode cX8_isQuestion 9 = .ok (.i2l, 1) := by decide +kernel
theorem dX8_isQuestion_10 : decode cX8_isQuestion 10 = .ok (.invokestatic 78, 3) := by decide +kernel
theorem dX8_isQuestion_13 : decode cX8_isQuestion 13 = .ok (.ireturn, 1) := by decide +kernel
theorem dX8_whole_0 : decode cX8_whole 0 = .ok (.iconst 1, 1) := by decide +kernel
theorem dX8_whole_1 : decode cX8_whole 1 = .ok (.aload_n 0, 1) := by decide +kernel
theorem dX8_whole_2 : decode cX8_whole 2 = .ok (.invokevirtual 111, 3) := by decide +kernel
theorem dX8_whole_5 : decode cX8_whole 5 = .ok (.ishl, 1) := by decide +kernel
theorem dX8_whole_6 : decode cX8_whole 6 = .ok (.iconst 1, 1) := by decide +kernel
theorem dX8_whole_7 : decode cX8_whole 7 = .ok (.isub, 1) := by decide +kernel
theorem dX8_whole_8 : decode cX8_whole 8 = .ok (.ireturn, 1) := by decide +kernel
theorem dX8_high_0 : decode cX8_high 0 = .ok (.iload_n 0, 1) := by decide +kernel
theorem dX8_high_1 : decode cX8_high 1 = .ok (.ifCond .ne 8, 3) := by decide +kernel
theorem dX8_high_4 : decode cX8_high 4 = .ok (.bipush 7, 2) := by decide +kernel
theorem dX8_high_6 : decode cX8_high 6 = .ok (.goto 25, 3) := by decide +kernel
theorem dX8_high_9 : decode cX8_high 9 = .ok (.iload_n 0, 1) := by decide +kernel
theorem dX8_high_10 : decode cX8_high 10 = .ok (.iconst 1, 1) := by decide +kernel
theorem dX8_high_11 : decode cX8_high 11 = .ok (.if_icmp .ne 9, 3) := by decide +kernel
theorem dX8_high_14 : decode cX8_high 14 = .ok (.sipush 999, 3) := by decide +kernel
theorem dX8_high_17 : decode cX8_high 17 = .ok (.goto 14, 3) := by decide +kernel
theorem dX8_high_20 : decode cX8_high 20 = .ok (.iload_n 0, 1) := by decide +kernel
theorem dX8_high_21 : decode cX8_high 21 = .ok (.iconst 2, 1) := by decide +kernel
theorem dX8_high_22 : decode cX8_high 22 = .ok (.if_icmp .ne 8, 3) := by decide +kernel
theorem dX8_high_25 : decode cX8_high 25 = .ok (.bipush 9, 2) := by decide +kernel
theorem dX8_high_27 : decode cX8_high 27 = .ok (.goto 4, 3) := by decide +kernel
theorem dX8_high_30 : decode cX8_high 30 = .ok (.iconst 1, 1) := by decide +kernel
theorem dX8_high_31 : decode cX8_high 31 = .ok (.ireturn, 1) := by decide +kernel
theorem dX8_set_0 : decode cX8_set 0 = .ok (.iload_n 1, 1) := by decide +kernel
theorem dX8_set_1 : decode cX8_set 1 = .ok (.i2l, 1) := by decide +kernel
theorem dX8_set_2 : decode cX8_set 2 = .ok (.lconst 0, 1) := by decide +kernel
theorem dX8_set_3 : decode cX8_set 3 = .ok (.ldc2_w 86, 3) := by decide +kernel
theorem dX8_set_6 : decode cX8_set 6 = .ok (.invokestatic 78, 3) := by decide +kernel
theorem dX8_set_9 : decode cX8_set 9 = .ok (.ifCond .eq 27, 3) := by decide +kernel
theorem dX8_set_12 : decode cX8_set 12 = .ok (.iload_n 2, 1) := by decide +kernel
theorem dX8_set_13 : decode cX8_set 13 = .ok (.i2l, 1) := by decide +kernel
theorem dX8_set_14 : decode cX8_set 14 = .ok (.iload_n 1, 1) := by decide +kernel
theorem dX8_set_15 : decode cX8_set 15 = .ok (.ifCond .ne 9, 3) := by decide +kernel
theorem dX8_set_18 : decode cX8_set 18 = .ok (.ldc2_w 92, 3) := by decide +kernel
theorem dX8_set_21 : decode cX8_set 21 = .ok (.goto 4, 3) := by decide +kernel
theorem dX8_set_24 : decode cX8_set 24 = .ok (.lconst 0, 1) := by decide +kernel
theorem dX8_set_25 : decode cX8_set 25 = .ok (.iload_n 1, 1) := by decide +kernel
theorem dX8_set_26 : decode cX8_set 26 = .ok (.invokestatic 115, 3) := by decide +kernel
theorem dX8_set_29 : decode cX8_set 29 = .ok (.i2l, 1) := by decide +kernel
theorem dX8_set_30 : decode cX8_set 30 = .ok (.invokestatic 78, 3) := by decide +kernel
theorem dX8_set_33 : decode cX8_set 33 = .ok (.ifCond .ne 6, 3) := by decide +kernel
theorem dX8_set_36 : decode cX8_set 36 = .ok (.bipush (-2), 2) := by decide +kernel
theorem dX8_set_38 : decode cX8_set 38 = .ok (.ireturn, 1) := by decide +kernel
theorem dX8_set_39 : decode cX8_set 39 = .ok (.aload_n 0, 1) := by decide +kernel
theorem dX8_set_40 : decode cX8_set 40 = .ok (.getfield 22, 3) := by decide +kernel
theorem dX8_set_43 : decode cX8_set 43 = .ok (.iload_n 1, 1) := by decide +kernel
theorem dX8_set_44 : decode cX8_set 44 = .ok (.iaload, 1) := by decide +kernel
theorem dX8_set_45 : decode cX8_set 45 = .ok (.istore_n 3, 1) := by decide +kernel
theorem dX8_set_46 : decode cX8_set 46 = .ok (.aload_n 0, 1) := by decide +kernel
theorem dX8_set_47 : decode cX8_set 47 = .ok (.getfield 22, 3) := by decide +kernel
theorem dX8_set_50 : decode cX8_set 50 = .ok (.iload_n 1, 1) := by decide +kernel
theorem dX8_set_51 : decode cX8_set 51 = .ok (.iload_n 2, 1) := by decide +kernel
theorem dX8_set_52 : decode cX8_set 52 = .ok (.iastore, 1) := by decide +kernel
theorem dX8_set_53 : decode cX8_set 53 = .ok (.iload_n 3, 1) := by decide +kernel
theorem dX8_set_54 : decode cX8_set 54 = .ok (.ireturn, 1) := by decide +kernel
theorem dX8_isLate_0 : decode cX8_isLate 0 = .ok (.iload_n 1, 1) := by decide +kernel
theorem dX8_isLate_1 : decode cX8_isLate 1 = .ok (.i2l, 1) := by decide +kernel
theorem dX8_isLate_2 : decode cX8_isLate 2 = .ok (.aload_n 0, 1) := by decide +kernel
theorem dX8_isLate_3 : decode cX8_isLate 3 = .ok (.getfield 118, 3) := by decide +kernel
theorem dX8_isLate_6 : decode cX8_isLate 6 = .ok (.ifCond .ne 7, 3) := by decide +kernel
theorem dX8_isLate_9 : decode cX8_isLate 9 = .ok (.lconst 0, 1) := by decide +kernel
theorem dX8_isLate_10 : decode cX8_isLate 10 = .ok (.goto 15, 3) := by decide +kernel
theorem dX8_isLate_13 : decode cX8_isLate 13 = .ok (.aload_n 0, 1) := by decide +kernel
theorem dX8_isLate_14 : decode cX8_isLate 14 = .ok (.getfield 34, 3) := by decide +kernel
theorem dX8_isLate_17 : decode cX8_isLate 17 = .ok (.aload_n 0, 1) := by decide +kernel
theorem dX8_isLate_18 : decode cX8_isLate 18 = .ok (.getfield 118, 3) := by decide +kernel
theorem dX8_isLate_21 : decode cX8_isLate 21 = .ok (.iconst 1, 1) := by decide +kernel
theorem dX8_isLate_22 : decode cX8_isLate 22 = .ok (.isub, 1) := by decide +kernel
theorem dX8_isLate_23 : decode cX8_isLate 23 = .ok (.iaload, 1) := by decide +kernel
theorem dX8_isLate_24 : decode cX8_isLate 24 = .ok (.i2l, 1) := by decide +kernel
theorem dX8_isLate_25 : decode cX8_isLate 25 = .ok (.ldc2_w 121, 3) := by decide +kernel
theorem dX8_isLate_28 : decode cX8_isLate 28 = .ok (.invokestatic 78, 3) := by decide +kernel
theorem dX8_isLate_31 : decode cX8_isLate 31 = .ok (.ireturn, 1) := by decide +kernel
theorem dX8_answer_0 : decode cX8_answer 0 = .ok (.iload_n 1, 1) := by decide +kernel
theorem dX8_answer_1 : decode cX8_answer 1 = .ok (.invokestatic 123, 3) := by decide +kernel
theorem dX8_answer_4 : decode cX8_answer 4 = .ok (.ifCond .eq 31, 3) := by decide +kernel
theorem dX8_answer_7 : decode cX8_answer 7 = .ok (.iload_n 2, 1) := by decide +kernel
theorem dX8_answer_8 : decode cX8_answer 8 = .ok (.invokestatic 126, 3) := by decide +kernel
theorem dX8_answer_11 : decode cX8_answer 11 = .ok (.ifCond .eq 24, 3) := by decide +kernel
theorem dX8_answer_14 : decode cX8_answer 14 = .ok (.iload_n 3, 1) := by decide +kernel
theorem dX8_answer_15 : decode cX8_answer 15 = .ok (.i2l, 1) := by decide +kernel
theorem dX8_answer_16 : decode cX8_answer 16 = .ok (.lconst 0, 1) := by decide +kernel
theorem dX8_answer_17 : decode cX8_answer 17 = .ok (.ldc2_w 92, 3) := by decide +kernel
theorem dX8_answer_20 : decode cX8_answer 20 = .ok (.invokestatic 78, 3) := by decide +kernel
theorem dX8_answer_23 : decode cX8_answer 23 = .ok (.ifCond .eq 12, 3) := by decide +kernel
theorem dX8_answer_26 : decode cX8_answer 26 = .ok (.aload_n 0, 1) := by decide +kernel
theorem dX8_answer_27 : decode cX8_answer 27 = .ok (.iload 4, 2) := by decide +kernel
theorem dX8_answer_29 : decode cX8_answer 29 = .ok (.invokevirtual 129, 3) := by decide +kernel
theorem dX8_answer_32 : decode cX8_answer 32 = .ok (.ifCond .ne 6, 3) := by decide +kernel
theorem dX8_answer_35 : decode cX8_answer 35 = .ok (.bipush (-2), 2) := by decide +kernel
theorem dX8_answer_37 : decode cX8_answer 37 = .ok (.ireturn, 1) := by decide +kernel
theorem dX8_answer_38 : decode cX8_answer 38 = .ok (.aload_n 0, 1) := by decide +kernel
theorem dX8_answer_39 : decode cX8_answer 39 = .ok (.getfield 118, 3) := by decide +kernel
theorem dX8_answer_42 : decode cX8_answer 42 = .ok (.sipush 160, 3) := by decide +kernel
theorem dX8_answer_45 : decode cX8_answer 45 = .ok (.if_icmp .ne 6, 3) := by decide +kernel
theorem dX8_answer_48 : decode cX8_answer 48 = .ok (.bipush (-4), 2) := by decide +kernel
theorem dX8_answer_50 : decode cX8_answer 50 = .ok (.ireturn, 1) := by decide +kernel
theorem dX8_answer_51 : decode cX8_answer 51 = .ok (.aload_n 0, 1) := by decide +kernel
theorem dX8_answer_52 : decode cX8_answer 52 = .ok (.getfield 25, 3) := by decide +kernel
theorem dX8_answer_55 : decode cX8_answer 55 = .ok (.aload_n 0, 1) := by decide +kernel
theorem dX8_answer_56 : decode cX8_answer 56 = .ok (.getfield 118, 3) := by decide +kernel
theorem dX8_answer_59 : decode cX8_answer 59 = .ok (.iload_n 1, 1) := by decide +kernel
theorem dX8_answer_60 : decode cX8_answer 60 = .ok (.iastore, 1) := by decide +kernel
theorem dX8_answer_61 : decode cX8_answer 61 = .ok (.aload_n 0, 1) := by decide +kernel
theorem dX8_answer_62 : decode cX8_answer 62 = .ok (.getfield 28, 3) := by decide +kernel
theorem dX8_answer_65 : decode cX8_answer 65 = .ok (.aload_n 0, 1) := by decide +kernel
theorem dX8_answer_66 : decode cX8_answer 66 = .ok (.getfield 118, 3) := by decide +kernel
theorem dX8_answer_69 : decode cX8_answer 69 = .ok (.iload_n 2, 1) := by decide +kernel
theorem dX8_answer_70 : decode cX8_answer 70 = .ok (.iastore, 1) := by decide +kernel
theorem dX8_answer_71 : decode cX8_answer 71 = .ok (.aload_n 0, 1) := by decide +kernel
theorem dX8_answer_72 : decode cX8_answer 72 = .ok (.getfield 31, 3) := by decide +kernel
theorem dX8_answer_75 : decode cX8_answer 75 = .ok (.aload_n 0, 1) := by decide +kernel
theorem dX8_answer_76 : decode cX8_answer 76 = .ok (.getfield 118, 3) := by decide +kernel
theorem dX8_answer_79 : decode cX8_answer 79 = .ok (.iload_n 3, 1) := by decide +kernel
theorem dX8_answer_80 : decode cX8_answer 80 = .ok (.iastore, 1) := by decide +kernel
theorem dX8_answer_81 : decode cX8_answer 81 = .ok (.aload_n 0, 1) := by decide +kernel
theorem dX8_answer_82 : decode cX8_answer 82 = .ok (.getfield 34, 3) := by decide +kernel
theorem dX8_answer_85 : decode cX8_answer 85 = .ok (.aload_n 0, 1) := by decide +kernel
theorem dX8_answer_86 : decode cX8_answer 86 = .ok (.getfield 118, 3) := by decide +kernel
theorem dX8_answer_89 : decode cX8_answer 89 = .ok (.iload 4, 2) := by decide +kernel
theorem dX8_answer_91 : decode cX8_answer 91 = .ok (.iastore, 1) := by decide +kernel
theorem dX8_answer_92 : decode cX8_answer 92 = .ok (.aload_n 0, 1) := by decide +kernel
theorem dX8_answer_93 : decode cX8_answer 93 = .ok (.dup, 1) := by decide +kernel
theorem dX8_answer_94 : decode cX8_answer 94 = .ok (.getfield 118, 3) := by decide +kernel
theorem dX8_answer_97 : decode cX8_answer 97 = .ok (.iconst 1, 1) := by decide +kernel
theorem dX8_answer_98 : decode cX8_answer 98 = .ok (.iadd, 1) := by decide +kernel
theorem dX8_answer_99 : decode cX8_answer 99 = .ok (.putfield 118, 3) := by decide +kernel
theorem dX8_answer_102 : decode cX8_answer 102 = .ok (.aload_n 0, 1) := by decide +kernel
theorem dX8_answer_103 : decode cX8_answer 103 = .ok (.getfield 118, 3) := by decide +kernel
theorem dX8_answer_106 : decode cX8_answer 106 = .ok (.ireturn, 1) := by decide +kernel
theorem dX8_read_0 : decode cX8_read 0 = .ok (.iload_n 1, 1) := by decide +kernel
theorem dX8_read_1 : decode cX8_read 1 = .ok (.invokestatic 88, 3) := by decide +kernel
theorem dX8_read_4 : decode cX8_read 4 = .ok (.ifCond .eq 18, 3) := by decide +kernel
theorem dX8_read_7 : decode cX8_read 7 = .ok (.iload_n 2, 1) := by decide +kernel
theorem dX8_read_8 : decode cX8_read 8 = .ok (.invokestatic 123, 3) := by decide +kernel
theorem dX8_read_11 : decode cX8_read 11 = .ok (.ifCond .eq 11, 3) := by decide +kernel
theorem dX8_read_14 : decode cX8_read 14 = .ok (.aload_n 0, 1) := by decide +kernel
theorem dX8_read_15 : decode cX8_read 15 = .ok (.iload_n 3, 1) := by decide +kernel
theorem dX8_read_16 : decode cX8_read 16 = .ok (.invokevirtual 129, 3) := by decide +kernel
theorem dX8_read_19 : decode cX8_read 19 = .ok (.ifCond .ne 6, 3) := by decide +kernel
theorem dX8_read_22 : decode cX8_read 22 = .ok (.bipush (-2), 2) := by decide +kernel
theorem dX8_read_24 : decode cX8_read 24 = .ok (.ireturn, 1) := by decide +kernel
theorem dX8_read_25 : decode cX8_read 25 = .ok (.aload_n 0, 1) := by decide +kernel
theorem dX8_read_26 : decode cX8_read 26 = .ok (.getfield 7, 3) := by decide +kernel
theorem dX8_read_29 : decode cX8_read 29 = .ok (.iload_n 1, 1) := by decide +kernel
theorem dX8_read_30 : decode cX8_read 30 = .ok (.iaload, 1) := by decide +kernel
theorem dX8_read_31 : decode cX8_read 31 = .ok (.ifCond .ge 9, 3) := by decide +kernel
theorem dX8_read_34 : decode cX8_read 34 = .ok (.aload_n 0, 1) := by decide +kernel
theorem dX8_read_35 : decode cX8_read 35 = .ok (.iconst 1, 1) := by decide +kernel
theorem dX8_read_36 : decode cX8_read 36 = .ok (.invokevirtual 94, 3) := by decide +kernel
theorem dX8_read_39 : decode cX8_read 39 = .ok (.ireturn, 1) := by decide +kernel
theorem dX8_read_40 : decode cX8_read 40 = .ok (.iconst 0, 1) := by decide +kernel
theorem dX8_read_41 : decode cX8_read 41 = .ok (.istore 4, 2) := by decide +kernel
theorem dX8_read_43 : decode cX8_read 43 = .ok (.iload 4, 2) := by decide +kernel
theorem dX8_read_45 : decode cX8_read 45 = .ok (.aload_n 0, 1) := by decide +kernel
theorem dX8_read_46 : decode cX8_read 46 = .ok (.getfield 13, 3) := by decide +kernel
theorem dX8_read_49 : decode cX8_read 49 = .ok (.iload_n 1, 1) := by decide +kernel
theorem dX8_read_50 : decode cX8_read 50 = .ok (.iaload, 1) := by decide +kernel
theorem dX8_read_51 : decode cX8_read 51 = .ok (.if_icmp .ge 32, 3) := by decide +kernel
theorem dX8_read_54 : decode cX8_read 54 = .ok (.aload_n 0, 1) := by decide +kernel
theorem dX8_read_55 : decode cX8_read 55 = .ok (.iload_n 2, 1) := by decide +kernel
theorem dX8_read_56 : decode cX8_read 56 = .ok (.iload 4, 2) := by decide +kernel
theorem dX8_read_58 : decode cX8_read 58 = .ok (.aload_n 0, 1) := by decide +kernel
theorem dX8_read_59 : decode cX8_read 59 = .ok (.getfield 16, 3) := by decide +kernel
theorem dX8_read_62 : decode cX8_read 62 = .ok (.bipush 60, 2) := by decide +kernel
theorem dX8_read_64 : decode cX8_read 64 = .ok (.iload_n 1, 1) := by decide +kernel
theorem dX8_read_65 : decode cX8_read 65 = .ok (.imul, 1) := by decide +kernel
theorem dX8_read_66 : decode cX8_read 66 = .ok (.iload 4, 2) := by decide +kernel
theorem dX8_read_68 : decode cX8_read 68 = .ok (.iadd, 1) := by decide +kernel
theorem dX8_read_69 : decode cX8_read 69 = .ok (.iaload, 1) := by decide +kernel
theorem dX8_read_70 : decode cX8_read 70 = .ok (.iload_n 3, 1) := by decide +kernel
theorem dX8_read_71 : decode cX8_read 71 = .ok (.invokevirtual 132, 3) := by decide +kernel
theorem dX8_read_74 : decode cX8_read 74 = .ok (.ifCond .lt 9, 3) := by decide +kernel
theorem dX8_read_77 : decode cX8_read 77 = .ok (.iinc 4 1, 3) := by decide +kernel
theorem dX8_read_80 : decode cX8_read 80 = .ok (.goto (-37), 3) := by decide +kernel
theorem dX8_read_83 : decode cX8_read 83 = .ok (.iload 4, 2) := by decide +kernel
theorem dX8_read_85 : decode cX8_read 85 = .ok (.ireturn, 1) := by decide +kernel
theorem dX8_findSays_0 : decode cX8_findSays 0 = .ok (.iconst 0, 1) := by decide +kernel
theorem dX8_findSays_1 : decode cX8_findSays 1 = .ok (.istore_n 1, 1) := by decide +kernel
theorem dX8_findSays_2 : decode cX8_findSays 2 = .ok (.iload_n 1, 1) := by decide +kernel
theorem dX8_findSays_3 : decode cX8_findSays 3 = .ok (.bipush 84, 2) := by decide +kernel
theorem dX8_findSays_5 : decode cX8_findSays 5 = .ok (.if_icmp .ge 16, 3) := by decide +kernel
theorem dX8_findSays_8 : decode cX8_findSays 8 = .ok (.aload_n 0, 1) := by decide +kernel
theorem dX8_findSays_9 : decode cX8_findSays 9 = .ok (.getfield 37, 3) := by decide +kernel
theorem dX8_findSays_12 : decode cX8_findSays 12 = .ok (.iload_n 1, 1) := by decide +kernel
theorem dX8_findSays_13 : decode cX8_findSays 13 = .ok (.iconst 2, 1) := by decide +kernel
theorem dX8_findSays_14 : decode cX8_findSays 14 = .ok (.iastore, 1) := by decide +kernel
theorem dX8_findSays_15 : decode cX8_findSays 15 = .ok (.iinc 1 1, 3) := by decide +kernel
theorem dX8_findSays_18 : decode cX8_findSays 18 = .ok (.goto (-16), 3) := by decide +kernel
theorem dX8_findSays_21 : decode cX8_findSays 21 = .ok (.iconst 0, 1) := by decide +kernel
theorem dX8_findSays_22 : decode cX8_findSays 22 = .ok (.istore_n 1, 1) := by decide +kernel
theorem dX8_findSays_23 : decode cX8_findSays 23 = .ok (.iload_n 1, 1) := by decide +kernel
theorem dX8_findSays_24 : decode cX8_findSays 24 = .ok (.aload_n 0, 1) := by decide +kernel
theorem dX8_findSays_25 : decode cX8_findSays 25 = .ok (.getfield 118, 3) := by decide +kernel
theorem dX8_findSays_28 : decode cX8_findSays 28 = .ok (.if_icmp .ge 62, 3) := by decide +kernel
theorem dX8_findSays_31 : decode cX8_findSays 31 = .ok (.bipush 7, 2) := by decide +kernel
theorem dX8_findSays_33 : decode cX8_findSays 33 = .ok (.aload_n 0, 1) := by decide +kernel
theorem dX8_findSays_34 : decode cX8_findSays 34 = .ok (.getfield 25, 3) := by decide +kernel
theorem dX8_findSays_37 : decode cX8_findSays 37 = .ok (.iload_n 1, 1) := by decide +kernel
theorem dX8_findSays_38 : decode cX8_findSays 38 = .ok (.iaload, 1) := by decide +kernel
theorem dX8_findSays_39 : decode cX8_findSays 39 = .ok (.imul, 1) := by decide +kernel
theorem dX8_findSays_40 : decode cX8_findSays 40 = .ok (.aload_n 0, 1) := by decide +kernel
theorem dX8_findSays_41 : decode cX8_findSays 41 = .ok (.getfield 28, 3) := by decide +kernel
theorem dX8_findSays_44 : decode cX8_findSays 44 = .ok (.iload_n 1, 1) := by decide +kernel
theorem dX8_findSays_45 : decode cX8_findSays 45 = .ok (.iaload, 1) := by decide +kernel
theorem dX8_findSays_46 : decode cX8_findSays 46 = .ok (.iadd, 1) := by decide +kernel
theorem dX8_findSays_47 : decode cX8_findSays 47 = .ok (.istore_n 2, 1) := by decide +kernel
theorem dX8_findSays_48 : decode cX8_findSays 48 = .ok (.aload_n 0, 1) := by decide +kernel
theorem dX8_findSays_49 : decode cX8_findSays 49 = .ok (.getfield 37, 3) := by decide +kernel
theorem dX8_findSays_52 : decode cX8_findSays 52 = .ok (.iload_n 2, 1) := by decide +kernel
theorem dX8_findSays_53 : decode cX8_findSays 53 = .ok (.aload_n 0, 1) := by decide +kernel
theorem dX8_findSays_54 : decode cX8_findSays 54 = .ok (.getfield 34, 3) := by decide +kernel
theorem dX8_findSays_57 : decode cX8_findSays 57 = .ok (.iload_n 1, 1) := by decide +kernel
theorem dX8_findSays_58 : decode cX8_findSays 58 = .ok (.iaload, 1) := by decide +kernel
theorem dX8_findSays_59 : decode cX8_findSays 59 = .ok (.aload_n 0, 1) := by decide +kernel
theorem dX8_findSays_60 : decode cX8_findSays 60 = .ok (.getfield 22, 3) := by decide +kernel
theorem dX8_findSays_63 : decode cX8_findSays 63 = .ok (.iconst 1, 1) := by decide +kernel
theorem dX8_findSays_64 : decode cX8_findSays 64 = .ok (.iaload, 1) := by decide +kernel
theorem dX8_findSays_65 : decode cX8_findSays 65 = .ok (.if_icmp .gt 12, 3) := by decide +kernel
theorem dX8_findSays_68 : decode cX8_findSays 68 = .ok (.aload_n 0, 1) := by decide +kernel
theorem dX8_findSays_69 : decode cX8_findSays 69 = .ok (.getfield 31, 3) := by decide +kernel
theorem dX8_findSays_72 : decode cX8_findSays 72 = .ok (.iload_n 1, 1) := by decide +kernel
theorem dX8_findSays_73 : decode cX8_findSays 73 = .ok (.iaload, 1) := by decide +kernel
theorem dX8_findSays_74 : decode cX8_findSays 74 = .ok (.goto 9, 3) := by decide +kernel
theorem dX8_findSays_77 : decode cX8_findSays 77 = .ok (.aload_n 0, 1) := by decide +kernel
theorem dX8_findSays_78 : decode cX8_findSays 78 = .ok (.getfield 37, 3) := by decide +kernel
theorem dX8_findSays_81 : decode cX8_findSays 81 = .ok (.iload_n 2, 1) := by decide +kernel
theorem dX8_findSays_82 : decode cX8_findSays 82 = .ok (.iaload, 1) := by decide +kernel
theorem dX8_findSays_83 : decode cX8_findSays 83 = .ok (.iastore, 1) := by decide +kernel
theorem dX8_findSays_84 : decode cX8_findSays 84 = .ok (.iinc 1 1, 3) := by decide +kernel
theorem dX8_findSays_87 : decode cX8_findSays 87 = .ok (.goto (-64), 3) := by decide +kernel
theorem dX8_findSays_90 : decode cX8_findSays 90 = .ok (.return_, 1) := by decide +kernel
theorem dX8_said_0 : decode cX8_said 0 = .ok (.iload_n 1, 1) := by decide +kernel
theorem dX8_said_1 : decode cX8_said 1 = .ok (.invokestatic 123, 3) := by decide +kernel
theorem dX8_said_4 : decode cX8_said 4 = .ok (.ifCond .eq 10, 3) := by decide +kernel
theorem dX8_said_7 : decode cX8_said 7 = .ok (.iload_n 2, 1) := by decide +kernel
theorem dX8_said_8 : decode cX8_said 8 = .ok (.invokestatic 126, 3) := by decide +kernel
theorem dX8_said_11 : decode cX8_said 11 = .ok (.ifCond .ne 6, 3) := by decide +kernel
theorem dX8_said_14 : decode cX8_said 14 = .ok (.bipush (-2), 2) := by decide +kernel
theorem dX8_said_16 : decode cX8_said 16 = .ok (.ireturn, 1) := by decide +kernel
theorem dX8_said_17 : decode cX8_said 17 = .ok (.aload_n 0, 1) := by decide +kernel
theorem dX8_said_18 : decode cX8_said 18 = .ok (.invokevirtual 136, 3) := by decide +kernel
theorem dX8_said_21 : decode cX8_said 21 = .ok (.aload_n 0, 1) := by decide +kernel
theorem dX8_said_22 : decode cX8_said 22 = .ok (.getfield 37, 3) := by decide +kernel
theorem dX8_said_25 : decode cX8_said 25 = .ok (.bipush 7, 2) := by decide +kernel
theorem dX8_said_27 : decode cX8_said 27 = .ok (.iload_n 1, 1) := by decide +kernel
theorem dX8_said_28 : decode cX8_said 28 = .ok (.imul, 1) := by decide +kernel
theorem dX8_said_29 : decode cX8_said 29 = .ok (.iload_n 2, 1) := by decide +kernel
theorem dX8_said_30 : decode cX8_said 30 = .ok (.iadd, 1) := by decide +kernel
theorem dX8_said_31 : decode cX8_said 31 = .ok (.iaload, 1) := by decide +kernel
theorem dX8_said_32 : decode cX8_said 32 = .ok (.ireturn, 1) := by decide +kernel
theorem dX8_bits_0 : decode cX8_bits 0 = .ok (.iconst 0, 1) := by decide +kernel
theorem dX8_bits_1 : decode cX8_bits 1 = .ok (.istore_n 3, 1) := by decide +kernel
theorem dX8_bits_2 : decode cX8_bits 2 = .ok (.iconst 0, 1) := by decide +kernel
theorem dX8_bits_3 : decode cX8_bits 3 = .ok (.istore 4, 2) := by decide +kernel
theorem dX8_bits_5 : decode cX8_bits 5 = .ok (.iload 4, 2) := by decide +kernel
theorem dX8_bits_7 : decode cX8_bits 7 = .ok (.aload_n 0, 1) := by decide +kernel
theorem dX8_bits_8 : decode cX8_bits 8 = .ok (.invokevirtual 111, 3) := by decide +kernel
theorem dX8_bits_11 : decode cX8_bits 11 = .ok (.if_icmp .ge 36, 3) := by decide +kernel
theorem dX8_bits_14 : decode cX8_bits 14 = .ok (.iload_n 3, 1) := by decide +kernel
theorem dX8_bits_15 : decode cX8_bits 15 = .ok (.aload_n 0, 1) := by decide +kernel
theorem dX8_bits_16 : decode cX8_bits 16 = .ok (.getfield 37, 3) := by decide +kernel
theorem dX8_bits_19 : decode cX8_bits 19 = .ok (.bipush 7, 2) := by decide +kernel
theorem dX8_bits_21 : decode cX8_bits 21 = .ok (.iload_n 1, 1) := by decide +kernel
theorem dX8_bits_22 : decode cX8_bits 22 = .ok (.imul, 1) := by decide +kernel
theorem dX8_bits_23 : decode cX8_bits 23 = .ok (.iload 4, 2) := by decide +kernel
theorem dX8_bits_25 : decode cX8_bits 25 = .ok (.iadd, 1) := by decide +kernel
theorem dX8_bits_26 : decode cX8_bits 26 = .ok (.iaload, 1) := by decide +kernel
theorem dX8_bits_27 : decode cX8_bits 27 = .ok (.iload_n 2, 1) := by decide +kernel
theorem dX8_bits_28 : decode cX8_bits 28 = .ok (.if_icmp .ne 10, 3) := by decide +kernel
theorem dX8_bits_31 : decode cX8_bits 31 = .ok (.iconst 1, 1) := by decide +kernel
theorem dX8_bits_32 : decode cX8_bits 32 = .ok (.iload 4, 2) := by decide +kernel
theorem dX8_bits_34 : decode cX8_bits 34 = .ok (.ishl, 1) := by decide +kernel
theorem dX8_bits_35 : decode cX8_bits 35 = .ok (.goto 4, 3) := by decide +kernel
theorem dX8_bits_38 : decode cX8_bits 38 = .ok (.iconst 0, 1) := by decide +kernel
theorem dX8_bits_39 : decode cX8_bits 39 = .ok (.ior, 1) := by decide +kernel
theorem dX8_bits_40 : decode cX8_bits 40 = .ok (.istore_n 3, 1) := by decide +kernel
theorem dX8_bits_41 : decode cX8_bits 41 = .ok (.iinc 4 1, 3) := by decide +kernel
theorem dX8_bits_44 : decode cX8_bits 44 = .ok (.goto (-39), 3) := by decide +kernel
theorem dX8_bits_47 : decode cX8_bits 47 = .ok (.iload_n 3, 1) := by decide +kernel
theorem dX8_bits_48 : decode cX8_bits 48 = .ok (.ireturn, 1) := by decide +kernel
theorem dX8_type_0 : decode cX8_type 0 = .ok (.iload_n 1, 1) := by decide +kernel
theorem dX8_type_1 : decode cX8_type 1 = .ok (.i2l, 1) := by decide +kernel
theorem dX8_type_2 : decode cX8_type 2 = .ok (.lconst 0, 1) := by decide +kernel
theorem dX8_type_3 : decode cX8_type 3 = .ok (.ldc2_w 139, 3) := by decide +kernel
theorem dX8_type_6 : decode cX8_type 6 = .ok (.invokestatic 78, 3) := by decide +kernel
theorem dX8_type_9 : decode cX8_type 9 = .ok (.ifCond .ne 6, 3) := by decide +kernel
theorem dX8_type_12 : decode cX8_type 12 = .ok (.bipush (-2), 2) := by decide +kernel
theorem dX8_type_14 : decode cX8_type 14 = .ok (.ireturn, 1) := by decide +kernel
theorem dX8_type_15 : decode cX8_type 15 = .ok (.aload_n 0, 1) := by decide +kernel
theorem dX8_type_16 : decode cX8_type 16 = .ok (.getfield 141, 3) := by decide +kernel
theorem dX8_type_19 : decode cX8_type 19 = .ok (.bipush 60, 2) := by decide +kernel
theorem dX8_type_21 : decode cX8_type 21 = .ok (.if_icmp .ne 6, 3) := by decide +kernel
theorem dX8_type_24 : decode cX8_type 24 = .ok (.bipush (-4), 2) := by decide +kernel
theorem dX8_type_26 : decode cX8_type 26 = .ok (.ireturn, 1) := by decide +kernel
theorem dX8_type_27 : decode cX8_type 27 = .ok (.aload_n 0, 1) := by decide +kernel
theorem dX8_type_28 : decode cX8_type 28 = .ok (.getfield 40, 3) := by decide +kernel
theorem dX8_type_31 : decode cX8_type 31 = .ok (.aload_n 0, 1) := by decide +kernel
theorem dX8_type_32 : decode cX8_type 32 = .ok (.getfield 141, 3) := by decide +kernel
theorem dX8_type_35 : decode cX8_type 35 = .ok (.iload_n 1, 1) := by decide +kernel
theorem dX8_type_36 : decode cX8_type 36 = .ok (.iastore, 1) := by decide +kernel
theorem dX8_type_37 : decode cX8_type 37 = .ok (.aload_n 0, 1) := by decide +kernel
theorem dX8_type_38 : decode cX8_type 38 = .ok (.dup, 1) := by decide +kernel
theorem dX8_type_39 : decode cX8_type 39 = .ok (.getfield 141, 3) := by decide +kernel
theorem dX8_type_42 : decode cX8_type 42 = .ok (.iconst 1, 1) := by decide +kernel
theorem dX8_type_43 : decode cX8_type 43 = .ok (.iadd, 1) := by decide +kernel
theorem dX8_type_44 : decode cX8_type 44 = .ok (.putfield 141, 3) := by decide +kernel
theorem dX8_type_47 : decode cX8_type 47 = .ok (.aload_n 0, 1) := by decide +kernel
theorem dX8_type_48 : decode cX8_type 48 = .ok (.getfield 141, 3) := by decide +kernel
theorem dX8_type_51 : decode cX8_type 51 = .ok (.ireturn, 1) := by decide +kernel
theorem dX8_wipe_0 : decode cX8_wipe 0 = .ok (.aload_n 0, 1) := by decide +kernel
theorem dX8_wipe_1 : decode cX8_wipe 1 = .ok (.getfield 141, 3) := by decide +kernel
theorem dX8_wipe_4 : decode cX8_wipe 4 = .ok (.istore_n 1, 1) := by decide +kernel
theorem dX8_wipe_5 : decode cX8_wipe 5 = .ok (.aload_n 0, 1) := by decide +kernel
theorem dX8_wipe_6 : decode cX8_wipe 6 = .ok (.iconst 0, 1) := by decide +kernel
theorem dX8_wipe_7 : decode cX8_wipe 7 = .ok (.putfield 141, 3) := by decide +kernel
theorem dX8_wipe_10 : decode cX8_wipe 10 = .ok (.iload_n 1, 1) := by decide +kernel
theorem dX8_wipe_11 : decode cX8_wipe 11 = .ok (.ireturn, 1) := by decide +kernel
theorem dX8_here_0 : decode cX8_here 0 = .ok (.aload_n 0, 1) := by decide +kernel
theorem dX8_here_1 : decode cX8_here 1 = .ok (.getfield 144, 3) := by decide +kernel
theorem dX8_here_4 : decode cX8_here 4 = .ok (.aload_n 0, 1) := by decide +kernel
theorem dX8_here_5 : decode cX8_here 5 = .ok (.getfield 141, 3) := by decide +kernel
theorem dX8_here_8 : decode cX8_here 8 = .ok (.if_icmp .ge 15, 3) := by decide +kernel
theorem dX8_here_11 : decode cX8_here 11 = .ok (.aload_n 0, 1) := by decide +kernel
theorem dX8_here_12 : decode cX8_here 12 = .ok (.getfield 40, 3) := by decide +kernel
theorem dX8_here_15 : decode cX8_here 15 = .ok (.aload_n 0, 1) := by decide +kernel
theorem dX8_here_16 : decode cX8_here 16 = .ok (.getfield 144, 3) := by decide +kernel
theorem dX8_here_19 : decode cX8_here 19 = .ok (.iaload, 1) := by decide +kernel
theorem dX8_here_20 : decode cX8_here 20 = .ok (.goto 4, 3) := by decide +kernel
theorem dX8_here_23 : decode cX8_here 23 = .ok (.iconst (-1), 1) := by decide +kernel
theorem dX8_here_24 : decode cX8_here 24 = .ok (.ireturn, 1) := by decide +kernel
theorem dX8_clears_0 : decode cX8_clears 0 = .ok (.aload_n 0, 1) := by decide +kernel
theorem dX8_clears_1 : decode cX8_clears 1 = .ok (.iconst 0, 1) := by decide +kernel
theorem dX8_clears_2 : decode cX8_clears 2 = .ok (.putfield 147, 3) := by decide +kernel
theorem dX8_clears_5 : decode cX8_clears 5 = .ok (.iconst 0, 1) := by decide +kernel
theorem dX8_clears_6 : decode cX8_clears 6 = .ok (.istore_n 1, 1) := by decide +kernel
theorem dX8_clears_7 : decode cX8_clears 7 = .ok (.iload_n 1, 1) := by decide +kernel
theorem dX8_clears_8 : decode cX8_clears 8 = .ok (.bipush 7, 2) := by decide +kernel
theorem dX8_clears_10 : decode cX8_clears 10 = .ok (.if_icmp .ge 16, 3) := by decide +kernel
theorem dX8_clears_13 : decode cX8_clears 13 = .ok (.aload_n 0, 1) := by decide +kernel
theorem dX8_clears_14 : decode cX8_clears 14 = .ok (.getfield 43, 3) := by decide +kernel
theorem dX8_clears_17 : decode cX8_clears 17 = .ok (.iload_n 1, 1) := by decide +kernel
theorem dX8_clears_18 : decode cX8_clears 18 = .ok (.iconst 0, 1) := by decide +kernel
theorem dX8_clears_19 : decode cX8_clears 19 = .ok (.iastore, 1) := by decide +kernel
theorem dX8_clears_20 : decode cX8_clears 20 = .ok (.iinc 1 1, 3) := by decide +kernel
theorem dX8_clears_23 : decode cX8_clears 23 = .ok (.goto (-16), 3) := by decide +kernel
theorem dX8_clears_26 : decode cX8_clears 26 = .ok (.return_, 1) := by decide +kernel
theorem dX8_takes_0 : decode cX8_takes 0 = .ok (.aload_n 0, 1) := by decide +kernel
theorem dX8_takes_1 : decode cX8_takes 1 = .ok (.invokevirtual 150, 3) := by decide +kernel
theorem dX8_takes_4 : decode cX8_takes 4 = .ok (.iload_n 1, 1) := by decide +kernel
theorem dX8_takes_5 : decode cX8_takes 5 = .ok (.if_icmp .eq 5, 3) := by decide +kernel
theorem dX8_takes_8 : decode cX8_takes 8 = .ok (.iconst 0, 1) := by decide +kernel
theorem dX8_takes_9 : decode cX8_takes 9 = .ok (.ireturn, 1) := by decide +kernel
theorem dX8_takes_10 : decode cX8_takes 10 = .ok (.aload_n 0, 1) := by decide +kernel
theorem dX8_takes_11 : decode cX8_takes 11 = .ok (.dup, 1) := by decide +kernel
theorem dX8_takes_12 : decode cX8_takes 12 = .ok (.getfield 144, 3) := by decide +kernel
theorem dX8_takes_15 : decode cX8_takes 15 = .ok (.iconst 1, 1) := by decide +kernel
theorem dX8_takes_16 : decode cX8_takes 16 = .ok (.iadd, 1) := by decide +kernel
theorem dX8_takes_17 : decode cX8_takes 17 = .ok (.putfield 144, 3) := by decide +kernel
theorem dX8_takes_20 : decode cX8_takes 20 = .ok (.iconst 1, 1) := by decide +kernel
theorem dX8_takes_21 : decode cX8_takes 21 = .ok (.ireturn, 1) := by decide +kernel
theorem dX8_ahead_0 : decode cX8_ahead 0 = .ok (.iload_n 1, 1) := by decide +kernel
theorem dX8_ahead_1 : decode cX8_ahead 1 = .ok (.istore_n 2, 1) := by decide +kernel
theorem dX8_ahead_2 : decode cX8_ahead 2 = .ok (.iconst 0, 1) := by decide +kernel
theorem dX8_ahead_3 : decode cX8_ahead 3 = .ok (.istore_n 3, 1) := by decide +kernel
theorem dX8_ahead_4 : decode cX8_ahead 4 = .ok (.iload_n 3, 1) := by decide +kernel
theorem dX8_ahead_5 : decode cX8_ahead 5 = .ok (.bipush 7, 2) := by decide +kernel
theorem dX8_ahead_7 : decode cX8_ahead 7 = .ok (.if_icmp .ge 48, 3) := by decide +kernel
theorem dX8_ahead_10 : decode cX8_ahead 10 = .ok (.iconst 0, 1) := by decide +kernel
theorem dX8_ahead_11 : decode cX8_ahead 11 = .ok (.istore 4, 2) := by decide +kernel
theorem dX8_ahead_13 : decode cX8_ahead 13 = .ok (.iload 4, 2) := by decide +kernel
theorem dX8_ahead_15 : decode cX8_ahead 15 = .ok (.bipush 7, 2) := by decide +kernel
theorem dX8_ahead_17 : decode cX8_ahead 17 = .ok (.if_icmp .ge 32, 3) := by decide +kernel
theorem dX8_ahead_20 : decode cX8_ahead 20 = .ok (.iload_n 2, 1) := by decide +kernel
theorem dX8_ahead_21 : decode cX8_ahead 21 = .ok (.iload_n 2, 1) := by decide +kernel
theorem dX8_ahead_22 : decode cX8_ahead 22 = .ok (.iload 4, 2) := by decide +kernel
theorem dX8_ahead_24 : decode cX8_ahead 24 = .ok (.invokestatic 153, 3) := by decide +kernel
theorem dX8_ahead_27 : decode cX8_ahead 27 = .ok (.ifCond .eq 13, 3) := by decide +kernel
theorem dX8_ahead_30 : decode cX8_ahead 30 = .ok (.aload_n 0, 1) := by decide +kernel
theorem dX8_ahead_31 : decode cX8_ahead 31 = .ok (.getfield 43, 3) := by decide +kernel
theorem dX8_ahead_34 : decode cX8_ahead 34 = .ok (.iload 4, 2) := by decide +kernel
theorem dX8_ahead_36 : decode cX8_ahead 36 = .ok (.iaload, 1) := by decide +kernel
theorem dX8_ahead_37 : decode cX8_ahead 37 = .ok (.goto 4, 3) := by decide +kernel
theorem dX8_ahead_40 : decode cX8_ahead 40 = .ok (.iconst 0, 1) := by decide +kernel
theorem dX8_ahead_41 : decode cX8_ahead 41 = .ok (.ior, 1) := by decide +kernel
theorem dX8_ahead_42 : decode cX8_ahead 42 = .ok (.istore_n 2, 1) := by decide +kernel
theorem dX8_ahead_43 : decode cX8_ahead 43 = .ok (.iinc 4 1, 3) := by decide +kernel
theorem dX8_ahead_46 : decode cX8_ahead 46 = .ok (.goto (-33), 3) := by decide +kernel
theorem dX8_ahead_49 : decode cX8_ahead 49 = .ok (.iinc 3 1, 3) := by decide +kernel
theorem dX8_ahead_52 : decode cX8_ahead 52 = .ok (.goto (-48), 3) := by decide +kernel
theorem dX8_ahead_55 : decode cX8_ahead 55 = .ok (.iload_n 2, 1) := by decide +kernel
theorem dX8_ahead_56 : decode cX8_ahead 56 = .ok (.ireturn, 1) := by decide +kernel
theorem dX8_readsPart_0 : decode cX8_readsPart 0 = .ok (.aload_n 0, 1) := by decide +kernel
theorem dX8_readsPart_1 : decode cX8_readsPart 1 = .ok (.invokevirtual 150, 3) := by decide +kernel
theorem dX8_readsPart_4 : decode cX8_readsPart 4 = .ok (.bipush 97, 2) := by decide +kernel
theorem dX8_readsPart_6 : decode cX8_readsPart 6 = .ok (.isub, 1) := by decide +kernel
theorem dX8_readsPart_7 : decode cX8_readsPart 7 = .ok (.istore_n 1, 1) := by decide +kernel
theorem dX8_readsPart_8 : decode cX8_readsPart 8 = .ok (.iload_n 1, 1) := by decide +kernel
theorem dX8_readsPart_9 : decode cX8_readsPart 9 = .ok (.invokestatic 126, 3) := by decide +kernel
theorem dX8_readsPart_12 : decode cX8_readsPart 12 = .ok (.ifCond .ne 5, 3) := by decide +kernel
theorem dX8_readsPart_15 : decode cX8_readsPart 15 = .ok (.iconst 0, 1) := by decide +kernel
theorem dX8_readsPart_16 : decode cX8_readsPart 16 = .ok (.ireturn, 1) := by decide +kernel
theorem dX8_readsPart_17 : decode cX8_readsPart 17 = .ok (.aload_n 0, 1) := by decide +kernel
theorem dX8_readsPart_18 : decode cX8_readsPart 18 = .ok (.dup, 1) := by decide +kernel
theorem dX8_readsPart_19 : decode cX8_readsPart 19 = .ok (.getfield 144, 3) := by decide +kernel
theorem dX8_readsPart_22 : decode cX8_readsPart 22 = .ok (.iconst 1, 1) := by decide +kernel
theorem dX8_readsPart_23 : decode cX8_readsPart 23 = .ok (.iadd, 1) := by decide +kernel
theorem dX8_readsPart_24 : decode cX8_readsPart 24 = .ok (.putfield 144, 3) := by decide +kernel
theorem dX8_readsPart_27 : decode cX8_readsPart 27 = .ok (.aload_n 0, 1) := by decide +kernel
theorem dX8_readsPart_28 : decode cX8_readsPart 28 = .ok (.bipush 60, 2) := by decide +kernel
theorem dX8_readsPart_30 : decode cX8_readsPart 30 = .ok (.invokevirtual 157, 3) := by decide +kernel
theorem dX8_readsPart_33 : decode cX8_readsPart 33 = .ok (.ifCond .ne 5, 3) := by decide +kernel
theorem dX8_readsPart_36 : decode cX8_readsPart 36 = .ok (.iconst 0, 1) := by decide +kernel
theorem dX8_readsPart_37 : decode cX8_readsPart 37 = .ok (.ireturn, 1) := by decide +kernel
theorem dX8_readsPart_38 : decode cX8_readsPart 38 = .ok (.aload_n 0, 1) := by decide +kernel
theorem dX8_readsPart_39 : decode cX8_readsPart 39 = .ok (.invokevirtual 150, 3) := by decide +kernel
theorem dX8_readsPart_42 : decode cX8_readsPart 42 = .ok (.bipush 97, 2) := by decide +kernel
theorem dX8_readsPart_44 : decode cX8_readsPart 44 = .ok (.isub, 1) := by decide +kernel
theorem dX8_readsPart_45 : decode cX8_readsPart 45 = .ok (.istore_n 2, 1) := by decide +kernel
theorem dX8_readsPart_46 : decode cX8_readsPart 46 = .ok (.iload_n 2, 1) := by decide +kernel
theorem dX8_readsPart_47 : decode cX8_readsPart 47 = .ok (.invokestatic 126, 3) := by decide +kernel
theorem dX8_readsPart_50 : decode cX8_readsPart 50 = .ok (.ifCond .eq 17, 3) := by decide +kernel
theorem dX8_readsPart_53 : decode cX8_readsPart 53 = .ok (.aload_n 0, 1) := by decide +kernel
theorem dX8_readsPart_54 : decode cX8_readsPart 54 = .ok (.iconst 1, 1) := by decide +kernel
theorem dX8_readsPart_55 : decode cX8_readsPart 55 = .ok (.iload_n 1, 1) := by decide +kernel
theorem dX8_readsPart_56 : decode cX8_readsPart 56 = .ok (.ishl, 1) := by decide +kernel
theorem dX8_readsPart_57 : decode cX8_readsPart 57 = .ok (.invokevirtual 160, 3) := by decide +kernel
theorem dX8_readsPart_60 : decode cX8_readsPart 60 = .ok (.iload_n 2, 1) := by decide +kernel
theorem dX8_readsPart_61 : decode cX8_readsPart 61 = .ok (.invokestatic 153, 3) := by decide +kernel
theorem dX8_readsPart_64 : decode cX8_readsPart 64 = .ok (.ifCond .eq 5, 3) := by decide +kernel
theorem dX8_readsPart_67 : decode cX8_readsPart 67 = .ok (.iconst 0, 1) := by decide +kernel
theorem dX8_readsPart_68 : decode cX8_readsPart 68 = .ok (.ireturn, 1) := by decide +kernel
theorem dX8_readsPart_69 : decode cX8_readsPart 69 = .ok (.aload_n 0, 1) := by decide +kernel
theorem dX8_readsPart_70 : decode cX8_readsPart 70 = .ok (.dup, 1) := by decide +kernel
theorem dX8_readsPart_71 : decode cX8_readsPart 71 = .ok (.getfield 144, 3) := by decide +kernel
theorem dX8_readsPart_74 : decode cX8_readsPart 74 = .ok (.iconst 1, 1) := by decide +kernel
theorem dX8_readsPart_75 : decode cX8_readsPart 75 = .ok (.iadd, 1) := by decide +kernel
theorem dX8_readsPart_76 : decode cX8_readsPart 76 = .ok (.putfield 144, 3) := by decide +kernel
theorem dX8_readsPart_79 : decode cX8_readsPart 79 = .ok (.aload_n 0, 1) := by decide +kernel
theorem dX8_readsPart_80 : decode cX8_readsPart 80 = .ok (.getfield 43, 3) := by decide +kernel
theorem dX8_readsPart_83 : decode cX8_readsPart 83 = .ok (.iload_n 2, 1) := by decide +kernel
theorem dX8_readsPart_84 : decode cX8_readsPart 84 = .ok (.dup2, 1) := by decide +kernel
theorem dX8_readsPart_85 : decode cX8_readsPart 85 = .ok (.iaload, 1) := by decide +kernel
theorem dX8_readsPart_86 : decode cX8_readsPart 86 = .ok (.iconst 1, 1) := by decide +kernel
theorem dX8_readsPart_87 : decode cX8_readsPart 87 = .ok (.iload_n 1, 1) := by decide +kernel
theorem dX8_readsPart_88 : decode cX8_readsPart 88 = .ok (.ishl, 1) := by decide +kernel
theorem dX8_readsPart_89 : decode cX8_readsPart 89 = .ok (.ior, 1) := by decide +kernel
theorem dX8_readsPart_90 : decode cX8_readsPart 90 = .ok (.iastore, 1) := by decide +kernel
theorem dX8_readsPart_91 : decode cX8_readsPart 91 = .ok (.aload_n 0, 1) := by decide +kernel
theorem dX8_readsPart_92 : decode cX8_readsPart 92 = .ok (.dup, 1) := by decide +kernel
theorem dX8_readsPart_93 : decode cX8_readsPart 93 = .ok (.getfield 147, 3) := by decide +kernel
theorem dX8_readsPart_96 : decode cX8_readsPart 96 = .ok (.iconst 1, 1) := by decide +kernel
theorem dX8_readsPart_97 : decode cX8_readsPart 97 = .ok (.iadd, 1) := by decide +kernel
theorem dX8_readsPart_98 : decode cX8_readsPart 98 = .ok (.putfield 147, 3) := by decide +kernel
theorem dX8_readsPart_101 : decode cX8_readsPart 101 = .ok (.iconst 1, 1) := by decide +kernel
theorem dX8_readsPart_102 : decode cX8_readsPart 102 = .ok (.ireturn, 1) := by decide +kernel
theorem dX8_reads_0 : decode cX8_reads 0 = .ok (.aload_n 0, 1) := by decide +kernel
theorem dX8_reads_1 : decode cX8_reads 1 = .ok (.iconst 0, 1) := by decide +kernel
theorem dX8_reads_2 : decode cX8_reads 2 = .ok (.putfield 144, 3) := by decide +kernel
theorem dX8_reads_5 : decode cX8_reads 5 = .ok (.aload_n 0, 1) := by decide +kernel
theorem dX8_reads_6 : decode cX8_reads 6 = .ok (.invokevirtual 163, 3) := by decide +kernel
theorem dX8_reads_9 : decode cX8_reads 9 = .ok (.aload_n 0, 1) := by decide +kernel
theorem dX8_reads_10 : decode cX8_reads 10 = .ok (.getfield 141, 3) := by decide +kernel
theorem dX8_reads_13 : decode cX8_reads 13 = .ok (.ifCond .le 7, 3) := by decide +kernel
theorem dX8_reads_16 : decode cX8_reads 16 = .ok (.iconst 1, 1) := by decide +kernel
theorem dX8_reads_17 : decode cX8_reads 17 = .ok (.goto 4, 3) := by decide +kernel
theorem dX8_reads_20 : decode cX8_reads 20 = .ok (.iconst 0, 1) := by decide +kernel
theorem dX8_reads_21 : decode cX8_reads 21 = .ok (.istore_n 1, 1) := by decide +kernel
theorem dX8_reads_22 : decode cX8_reads 22 = .ok (.iload_n 1, 1) := by decide +kernel
theorem dX8_reads_23 : decode cX8_reads 23 = .ok (.ifCond .eq 58, 3) := by decide +kernel
theorem dX8_reads_26 : decode cX8_reads 26 = .ok (.aload_n 0, 1) := by decide +kernel
theorem dX8_reads_27 : decode cX8_reads 27 = .ok (.invokevirtual 166, 3) := by decide +kernel
theorem dX8_reads_30 : decode cX8_reads 30 = .ok (.ifCond .ne 12, 3) := by decide +kernel
theorem dX8_reads_33 : decode cX8_reads 33 = .ok (.aload_n 0, 1) := by decide +kernel
theorem dX8_reads_34 : decode cX8_reads 34 = .ok (.invokevirtual 163, 3) := by decide +kernel
theorem dX8_reads_37 : decode cX8_reads 37 = .ok (.aload_n 0, 1) := by decide +kernel
theorem dX8_reads_38 : decode cX8_reads 38 = .ok (.getfield 144, 3) := by decide +kernel
theorem dX8_reads_41 : decode cX8_reads 41 = .ok (.ireturn, 1) := by decide +kernel
theorem dX8_reads_42 : decode cX8_reads 42 = .ok (.aload_n 0, 1) := by decide +kernel
theorem dX8_reads_43 : decode cX8_reads 43 = .ok (.getfield 144, 3) := by decide +kernel
theorem dX8_reads_46 : decode cX8_reads 46 = .ok (.aload_n 0, 1) := by decide +kernel
theorem dX8_reads_47 : decode cX8_reads 47 = .ok (.getfield 141, 3) := by decide +kernel
theorem dX8_reads_50 : decode cX8_reads 50 = .ok (.if_icmp .ge 7, 3) := by decide +kernel
theorem dX8_reads_53 : decode cX8_reads 53 = .ok (.iconst 1, 1) := by decide +kernel
theorem dX8_reads_54 : decode cX8_reads 54 = .ok (.goto 4, 3) := by decide +kernel
theorem dX8_reads_57 : decode cX8_reads 57 = .ok (.iconst 0, 1) := by decide +kernel
theorem dX8_reads_58 : decode cX8_reads 58 = .ok (.istore_n 1, 1) := by decide +kernel
theorem dX8_reads_59 : decode cX8_reads 59 = .ok (.iload_n 1, 1) := by decide +kernel
theorem dX8_reads_60 : decode cX8_reads 60 = .ok (.ifCond .eq (-38), 3) := by decide +kernel
theorem dX8_reads_63 : decode cX8_reads 63 = .ok (.aload_n 0, 1) := by decide +kernel
theorem dX8_reads_64 : decode cX8_reads 64 = .ok (.bipush 59, 2) := by decide +kernel
theorem dX8_reads_66 : decode cX8_reads 66 = .ok (.invokevirtual 157, 3) := by decide +kernel
theorem dX8_reads_69 : decode cX8_reads 69 = .ok (.ifCond .ne (-47), 3) := by decide +kernel
theorem dX8_reads_72 : decode cX8_reads 72 = .ok (.aload_n 0, 1) := by decide +kernel
theorem dX8_reads_73 : decode cX8_reads 73 = .ok (.invokevirtual 163, 3) := by decide +kernel
theorem dX8_reads_76 : decode cX8_reads 76 = .ok (.aload_n 0, 1) := by decide +kernel
theorem dX8_reads_77 : decode cX8_reads 77 = .ok (.getfield 144, 3) := by decide +kernel
theorem dX8_reads_80 : decode cX8_reads 80 = .ok (.ireturn, 1) := by decide +kernel
theorem dX8_reads_81 : decode cX8_reads 81 = .ok (.iconst (-1), 1) := by decide +kernel
theorem dX8_reads_82 : decode cX8_reads 82 = .ok (.ireturn, 1) := by decide +kernel
theorem dX8_fault_0 : decode cX8_fault 0 = .ok (.aload_n 0, 1) := by decide +kernel
theorem dX8_fault_1 : decode cX8_fault 1 = .ok (.invokevirtual 170, 3) := by decide +kernel
theorem dX8_fault_4 : decode cX8_fault 4 = .ok (.ireturn, 1) := by decide +kernel
theorem dX8_isFound_0 : decode cX8_isFound 0 = .ok (.iconst 0, 1) := by decide +kernel
theorem dX8_isFound_1 : decode cX8_isFound 1 = .ok (.istore_n 3, 1) := by decide +kernel
theorem dX8_isFound_2 : decode cX8_isFound 2 = .ok (.iconst 0, 1) := by decide +kernel
theorem dX8_isFound_3 : decode cX8_isFound 3 = .ok (.istore 4, 2) := by decide +kernel
theorem dX8_isFound_5 : decode cX8_isFound 5 = .ok (.iconst 0, 1) := by decide +kernel
theorem dX8_isFound_6 : decode cX8_isFound 6 = .ok (.istore 5, 2) := by decide +kernel
theorem dX8_isFound_8 : decode cX8_isFound 8 = .ok (.iload 5, 2) := by decide +kernel
theorem dX8_isFound_10 : decode cX8_isFound 10 = .ok (.bipush 12, 2) := by decide +kernel
theorem dX8_isFound_12 : decode cX8_isFound 12 = .ok (.if_icmp .ge 77, 3) := by decide +kernel
theorem dX8_isFound_15 : decode cX8_isFound 15 = .ok (.aload_n 0, 1) := by decide +kernel
theorem dX8_isFound_16 : decode cX8_isFound 16 = .ok (.getfield 37, 3) := by decide +kernel
theorem dX8_isFound_19 : decode cX8_isFound 19 = .ok (.bipush 7, 2) := by decide +kernel
theorem dX8_isFound_21 : decode cX8_isFound 21 = .ok (.iload 5, 2) := by decide +kernel
theorem dX8_isFound_23 : decode cX8_isFound 23 = .ok (.imul, 1) := by decide +kernel
theorem dX8_isFound_24 : decode cX8_isFound 24 = .ok (.iload_n 1, 1) := by decide +kernel
theorem dX8_isFound_25 : decode cX8_isFound 25 = .ok (.iadd, 1) := by decide +kernel
theorem dX8_isFound_26 : decode cX8_isFound 26 = .ok (.iaload, 1) := by decide +kernel
theorem dX8_isFound_27 : decode cX8_isFound 27 = .ok (.istore 6, 2) := by decide +kernel
theorem dX8_isFound_29 : decode cX8_isFound 29 = .ok (.aload_n 0, 1) := by decide +kernel
theorem dX8_isFound_30 : decode cX8_isFound 30 = .ok (.getfield 37, 3) := by decide +kernel
theorem dX8_isFound_33 : decode cX8_isFound 33 = .ok (.bipush 7, 2) := by decide +kernel
theorem dX8_isFound_35 : decode cX8_isFound 35 = .ok (.iload 5, 2) := by decide +kernel
theorem dX8_isFound_37 : decode cX8_isFound 37 = .ok (.imul, 1) := by decide +kernel
theorem dX8_isFound_38 : decode cX8_isFound 38 = .ok (.iload_n 2, 1) := by decide +kernel
theorem dX8_isFound_39 : decode cX8_isFound 39 = .ok (.iadd, 1) := by decide +kernel
theorem dX8_isFound_40 : decode cX8_isFound 40 = .ok (.iaload, 1) := by decide +kernel
theorem dX8_isFound_41 : decode cX8_isFound 41 = .ok (.istore 7, 2) := by decide +kernel
theorem dX8_isFound_43 : decode cX8_isFound 43 = .ok (.iload_n 3, 1) := by decide +kernel
theorem dX8_isFound_44 : decode cX8_isFound 44 = .ok (.iload 6, 2) := by decide +kernel
theorem dX8_isFound_46 : decode cX8_isFound 46 = .ok (.iconst 1, 1) := by decide +kernel
theorem dX8_isFound_47 : decode cX8_isFound 47 = .ok (.if_icmp .ne 12, 3) := by decide +kernel
theorem dX8_isFound_50 : decode cX8_isFound 50 = .ok (.iload 7, 2) := by decide +kernel
theorem dX8_isFound_52 : decode cX8_isFound 52 = .ok (.ifCond .ne 7, 3) := by decide +kernel
theorem dX8_isFound_55 : decode cX8_isFound 55 = .ok (.iconst 1, 1) := by decide +kernel
theorem dX8_isFound_56 : decode cX8_isFound 56 = .ok (.goto 4, 3) := by decide +kernel
theorem dX8_isFound_59 : decode cX8_isFound 59 = .ok (.iconst 0, 1) := by decide +kernel
theorem dX8_isFound_60 : decode cX8_isFound 60 = .ok (.iadd, 1) := by decide +kernel
theorem dX8_isFound_61 : decode cX8_isFound 61 = .ok (.istore_n 3, 1) := by decide +kernel
theorem dX8_isFound_62 : decode cX8_isFound 62 = .ok (.iload 4, 2) := by decide +kernel
theorem dX8_isFound_64 : decode cX8_isFound 64 = .ok (.iload 6, 2) := by decide +kernel
theorem dX8_isFound_66 : decode cX8_isFound 66 = .ok (.ifCond .ne 13, 3) := by decide +kernel
theorem dX8_isFound_69 : decode cX8_isFound 69 = .ok (.iload 7, 2) := by decide +kernel
theorem dX8_isFound_71 : decode cX8_isFound 71 = .ok (.iconst 1, 1) := by decide +kernel
theorem dX8_isFound_72 : decode cX8_isFound 72 = .ok (.if_icmp .ne 7, 3) := by decide +kernel
theorem dX8_isFound_75 : decode cX8_isFound 75 = .ok (.iconst 1, 1) := by decide +kernel
theorem dX8_isFound_76 : decode cX8_isFound 76 = .ok (.goto 4, 3) := by decide +kernel
theorem dX8_isFound_79 : decode cX8_isFound 79 = .ok (.iconst 0, 1) := by decide +kernel
theorem dX8_isFound_80 : decode cX8_isFound 80 = .ok (.iadd, 1) := by decide +kernel
theorem dX8_isFound_81 : decode cX8_isFound 81 = .ok (.istore 4, 2) := by decide +kernel
theorem dX8_isFound_83 : decode cX8_isFound 83 = .ok (.iinc 5 1, 3) := by decide +kernel
theorem dX8_isFound_86 : decode cX8_isFound 86 = .ok (.goto (-78), 3) := by decide +kernel
theorem dX8_isFound_89 : decode cX8_isFound 89 = .ok (.iload 4, 2) := by decide +kernel
theorem dX8_isFound_91 : decode cX8_isFound 91 = .ok (.aload_n 0, 1) := by decide +kernel
theorem dX8_isFound_92 : decode cX8_isFound 92 = .ok (.getfield 22, 3) := by decide +kernel
theorem dX8_isFound_95 : decode cX8_isFound 95 = .ok (.iconst 2, 1) := by decide +kernel
theorem dX8_isFound_96 : decode cX8_isFound 96 = .ok (.iaload, 1) := by decide +kernel
theorem dX8_isFound_97 : decode cX8_isFound 97 = .ok (.if_icmp .gt 13, 3) := by decide +kernel
theorem dX8_isFound_100 : decode cX8_isFound 100 = .ok (.iload 4, 2) := by decide +kernel
theorem dX8_isFound_102 : decode cX8_isFound 102 = .ok (.iload_n 3, 1) := by decide +kernel
theorem dX8_isFound_103 : decode cX8_isFound 103 = .ok (.if_icmp .ge 7, 3) := by decide +kernel
theorem dX8_isFound_106 : decode cX8_isFound 106 = .ok (.iconst 1, 1) := by decide +kernel
theorem dX8_isFound_107 : decode cX8_isFound 107 = .ok (.goto 4, 3) := by decide +kernel
theorem dX8_isFound_110 : decode cX8_isFound 110 = .ok (.iconst 0, 1) := by decide +kernel
theorem dX8_isFound_111 : decode cX8_isFound 111 = .ok (.ireturn, 1) := by decide +kernel
theorem dX8_isNeeded_0 : decode cX8_isNeeded 0 = .ok (.iload_n 1, 1) := by decide +kernel
theorem dX8_isNeeded_1 : decode cX8_isNeeded 1 = .ok (.iload_n 2, 1) := by decide +kernel
theorem dX8_isNeeded_2 : decode cX8_isNeeded 2 = .ok (.if_icmp .eq 36, 3) := by decide +kernel
theorem dX8_isNeeded_5 : decode cX8_isNeeded 5 = .ok (.iload_n 3, 1) := by decide +kernel
theorem dX8_isNeeded_6 : decode cX8_isNeeded 6 = .ok (.ifCond .ne 19, 3) := by decide +kernel
theorem dX8_isNeeded_9 : decode cX8_isNeeded 9 = .ok (.aload_n 0, 1) := by decide +kernel
theorem dX8_isNeeded_10 : decode cX8_isNeeded 10 = .ok (.getfield 43, 3) := by decide +kernel
theorem dX8_isNeeded_13 : decode cX8_isNeeded 13 = .ok (.iload_n 2, 1) := by decide +kernel
theorem dX8_isNeeded_14 : decode cX8_isNeeded 14 = .ok (.iaload, 1) := by decide +kernel
theorem dX8_isNeeded_15 : decode cX8_isNeeded 15 = .ok (.iload_n 1, 1) := by decide +kernel
theorem dX8_isNeeded_16 : decode cX8_isNeeded 16 = .ok (.invokestatic 153, 3) := by decide +kernel
theorem dX8_isNeeded_19 : decode cX8_isNeeded 19 = .ok (.ifCond .eq 19, 3) := by decide +kernel
theorem dX8_isNeeded_22 : decode cX8_isNeeded 22 = .ok (.goto 12, 3) := by decide +kernel
theorem dX8_isNeeded_25 : decode cX8_isNeeded 25 = .ok (.aload_n 0, 1) := by decide +kernel
theorem dX8_isNeeded_26 : decode cX8_isNeeded 26 = .ok (.iload_n 1, 1) := by decide +kernel
theorem dX8_isNeeded_27 : decode cX8_isNeeded 27 = .ok (.iload_n 2, 1) := by decide +kernel
theorem dX8_isNeeded_28 : decode cX8_isNeeded 28 = .ok (.invokevirtual 173, 3) := by decide +kernel
theorem dX8_isNeeded_31 : decode cX8_isNeeded 31 = .ok (.ifCond .eq 7, 3) := by decide +kernel
theorem dX8_isNeeded_34 : decode cX8_isNeeded 34 = .ok (.iconst 1, 1) := by decide +kernel
theorem dX8_isNeeded_35 : decode cX8_isNeeded 35 = .ok (.goto 4, 3) := by decide +kernel
theorem dX8_isNeeded_38 : decode cX8_isNeeded 38 = .ok (.iconst 0, 1) := by decide +kernel
theorem dX8_isNeeded_39 : decode cX8_isNeeded 39 = .ok (.ireturn, 1) := by decide +kernel
theorem dX8_find_0 : decode cX8_find 0 = .ok (.aload_n 0, 1) := by decide +kernel
theorem dX8_find_1 : decode cX8_find 1 = .ok (.invokevirtual 136, 3) := by decide +kernel
theorem dX8_find_4 : decode cX8_find 4 = .ok (.aload_n 0, 1) := by decide +kernel
theorem dX8_find_5 : decode cX8_find 5 = .ok (.invokevirtual 170, 3) := by decide +kernel
theorem dX8_find_8 : decode cX8_find 8 = .ok (.pop, 1) := by decide +kernel
theorem dX8_find_9 : decode cX8_find 9 = .ok (.return_, 1) := by decide +kernel
theorem dX8_needed_0 : decode cX8_needed 0 = .ok (.aload_n 0, 1) := by decide +kernel
theorem dX8_needed_1 : decode cX8_needed 1 = .ok (.iload_n 1, 1) := by decide +kernel
theorem dX8_needed_2 : decode cX8_needed 2 = .ok (.invokevirtual 176, 3) := by decide +kernel
theorem dX8_needed_5 : decode cX8_needed 5 = .ok (.ifCond .eq 23, 3) := by decide +kernel
theorem dX8_needed_8 : decode cX8_needed 8 = .ok (.aload_n 0, 1) := by decide +kernel
theorem dX8_needed_9 : decode cX8_needed 9 = .ok (.iload_n 2, 1) := by decide +kernel
theorem dX8_needed_10 : decode cX8_needed 10 = .ok (.invokevirtual 176, 3) := by decide +kernel
theorem dX8_needed_13 : decode cX8_needed 13 = .ok (.ifCond .eq 15, 3) := by decide +kernel
theorem dX8_needed_16 : decode cX8_needed 16 = .ok (.iload_n 1, 1) := by decide +kernel
theorem dX8_needed_17 : decode cX8_needed 17 = .ok (.iload_n 2, 1) := by decide +kernel
theorem dX8_needed_18 : decode cX8_needed 18 = .ok (.if_icmp .eq 10, 3) := by decide +kernel
theorem dX8_needed_21 : decode cX8_needed 21 = .ok (.iload_n 3, 1) := by decide +kernel
theorem dX8_needed_22 : decode cX8_needed 22 = .ok (.invokestatic 179, 3) := by decide +kernel
theorem dX8_needed_25 : decode cX8_needed 25 = .ok (.ifCond .ne 6, 3) := by decide +kernel
theorem dX8_needed_28 : decode cX8_needed 28 = .ok (.bipush (-2), 2) := by decide +kernel
theorem dX8_needed_30 : decode cX8_needed 30 = .ok (.ireturn, 1) := by decide +kernel
theorem dX8_needed_31 : decode cX8_needed 31 = .ok (.aload_n 0, 1) := by decide +kernel
theorem dX8_needed_32 : decode cX8_needed 32 = .ok (.invokevirtual 182, 3) := by decide +kernel
theorem dX8_needed_35 : decode cX8_needed 35 = .ok (.aload_n 0, 1) := by decide +kernel
theorem dX8_needed_36 : decode cX8_needed 36 = .ok (.iload_n 1, 1) := by decide +kernel
theorem dX8_needed_37 : decode cX8_needed 37 = .ok (.iload_n 2, 1) := by decide +kernel
theorem dX8_needed_38 : decode cX8_needed 38 = .ok (.iload_n 3, 1) := by decide +kernel
theorem dX8_needed_39 : decode cX8_needed 39 = .ok (.invokevirtual 185, 3) := by decide +kernel
theorem dX8_needed_42 : decode cX8_needed 42 = .ok (.ifCond .eq 7, 3) := by decide +kernel
theorem dX8_needed_45 : decode cX8_needed 45 = .ok (.iconst 1, 1) := by decide +kernel
theorem dX8_needed_46 : decode cX8_needed 46 = .ok (.goto 4, 3) := by decide +kernel
theorem dX8_needed_49 : decode cX8_needed 49 = .ok (.iconst 0, 1) := by decide +kernel
theorem dX8_needed_50 : decode cX8_needed 50 = .ok (.ireturn, 1) := by decide +kernel
theorem dX8_findNeeds_0 : decode cX8_findNeeds 0 = .ok (.aload_n 0, 1) := by decide +kernel
theorem dX8_findNeeds_1 : decode cX8_findNeeds 1 = .ok (.invokevirtual 182, 3) := by decide +kernel
theorem dX8_findNeeds_4 : decode cX8_findNeeds 4 = .ok (.iconst 0, 1) := by decide +kernel
theorem dX8_findNeeds_5 : decode cX8_findNeeds 5 = .ok (.istore_n 1, 1) := by decide +kernel
theorem dX8_findNeeds_6 : decode cX8_findNeeds 6 = .ok (.iload_n 1, 1) := by decide +kernel
theorem dX8_findNeeds_7 : decode cX8_findNeeds 7 = .ok (.aload_n 0, 1) := by decide +kernel
theorem dX8_findNeeds_8 : decode cX8_findNeeds 8 = .ok (.invokevirtual 111, 3) := by decide +kernel
theorem dX8_findNeeds_11 : decode cX8_findNeeds 11 = .ok (.if_icmp .ge 63, 3) := by decide +kernel
theorem dX8_findNeeds_14 : decode cX8_findNeeds 14 = .ok (.aload_n 0, 1) := by decide +kernel
theorem dX8_findNeeds_15 : decode cX8_findNeeds 15 = .ok (.getfield 46, 3) := by decide +kernel
theorem dX8_findNeeds_18 : decode cX8_findNeeds 18 = .ok (.iload_n 1, 1) := by decide +kernel
theorem dX8_findNeeds_19 : decode cX8_findNeeds 19 = .ok (.iconst 0, 1) := by decide +kernel
theorem dX8_findNeeds_20 : decode cX8_findNeeds 20 = .ok (.iastore, 1) := by decide +kernel
theorem dX8_findNeeds_21 : decode cX8_findNeeds 21 = .ok (.iconst 0, 1) := by decide +kernel
theorem dX8_findNeeds_22 : decode cX8_findNeeds 22 = .ok (.istore_n 2, 1) := by decide +kernel
theorem dX8_findNeeds_23 : decode cX8_findNeeds 23 = .ok (.iload_n 2, 1) := by decide +kernel
theorem dX8_findNeeds_24 : decode cX8_findNeeds 24 = .ok (.aload_n 0, 1) := by decide +kernel
theorem dX8_findNeeds_25 : decode cX8_findNeeds 25 = .ok (.invokevirtual 111, 3) := by decide +kernel
theorem dX8_findNeeds_28 : decode cX8_findNeeds 28 = .ok (.if_icmp .ge 40, 3) := by decide +kernel
theorem dX8_findNeeds_31 : decode cX8_findNeeds 31 = .ok (.aload_n 0, 1) := by decide +kernel
theorem dX8_findNeeds_32 : decode cX8_findNeeds 32 = .ok (.getfield 46, 3) := by decide +kernel
theorem dX8_findNeeds_35 : decode cX8_findNeeds 35 = .ok (.iload_n 1, 1) := by decide +kernel
theorem dX8_findNeeds_36 : decode cX8_findNeeds 36 = .ok (.dup2, 1) := by decide +kernel
theorem dX8_findNeeds_37 : decode cX8_findNeeds 37 = .ok (.iaload, 1) := by decide +kernel
theorem dX8_findNeeds_38 : decode cX8_findNeeds 38 = .ok (.aload_n 0, 1) := by decide +kernel
theorem dX8_findNeeds_39 : decode cX8_findNeeds 39 = .ok (.iload_n 2, 1) := by decide +kernel
theorem dX8_findNeeds_40 : decode cX8_findNeeds 40 = .ok (.iload_n 1, 1) := by decide +kernel
theorem dX8_findNeeds_41 : decode cX8_findNeeds 41 = .ok (.aload_n 0, 1) := by decide +kernel
theorem dX8_findNeeds_42 : decode cX8_findNeeds 42 = .ok (.getfield 22, 3) := by decide +kernel
theorem dX8_findNeeds_45 : decode cX8_findNeeds 45 = .ok (.iconst 3, 1) := by decide +kernel
theorem dX8_findNeeds_46 : decode cX8_findNeeds 46 = .ok (.iaload, 1) := by decide +kernel
theorem dX8_findNeeds_47 : decode cX8_findNeeds 47 = .ok (.invokevirtual 185, 3) := by decide +kernel
theorem dX8_findNeeds_50 : decode cX8_findNeeds 50 = .ok (.ifCond .eq 9, 3) := by decide +kernel
theorem dX8_findNeeds_53 : decode cX8_findNeeds 53 = .ok (.iconst 1, 1) := by decide +kernel
theorem dX8_findNeeds_54 : decode cX8_findNeeds 54 = .ok (.iload_n 2, 1) := by decide +kernel
theorem dX8_findNeeds_55 : decode cX8_findNeeds 55 = .ok (.ishl, 1) := by decide +kernel
theorem dX8_findNeeds_56 : decode cX8_findNeeds 56 = .ok (.goto 4, 3) := by decide +kernel
theorem dX8_findNeeds_59 : decode cX8_findNeeds 59 = .ok (.iconst 0, 1) := by decide +kernel
theorem dX8_findNeeds_60 : decode cX8_findNeeds 60 = .ok (.ior, 1) := by decide +kernel
theorem dX8_findNeeds_61 : decode cX8_findNeeds 61 = .ok (.iastore, 1) := by decide +kernel
theorem dX8_findNeeds_62 : decode cX8_findNeeds 62 = .ok (.iinc 2 1, 3) := by decide +kernel
theorem dX8_findNeeds_65 : decode cX8_findNeeds 65 = .ok (.goto (-42), 3) := by decide +kernel
theorem dX8_findNeeds_68 : decode cX8_findNeeds 68 = .ok (.iinc 1 1, 3) := by decide +kernel
theorem dX8_findNeeds_71 : decode cX8_findNeeds 71 = .ok (.goto (-65), 3) := by decide +kernel
theorem dX8_findNeeds_74 : decode cX8_findNeeds 74 = .ok (.return_, 1) := by decide +kernel
theorem dX8_isState_0 : decode cX8_isState 0 = .ok (.iconst 1, 1) := by decide +kernel
theorem dX8_isState_1 : decode cX8_isState 1 = .ok (.istore_n 2, 1) := by decide +kernel
theorem dX8_isState_2 : decode cX8_isState 2 = .ok (.iconst 0, 1) := by decide +kernel
theorem dX8_isState_3 : decode cX8_isState 3 = .ok (.istore_n 3, 1) := by decide +kernel
theorem dX8_isState_4 : decode cX8_isState 4 = .ok (.iload_n 3, 1) := by decide +kernel
theorem dX8_isState_5 : decode cX8_isState 5 = .ok (.aload_n 0, 1) := by decide +kernel
theorem dX8_isState_6 : decode cX8_isState 6 = .ok (.invokevirtual 111, 3) := by decide +kernel
theorem dX8_isState_9 : decode cX8_isState 9 = .ok (.if_icmp .ge 40, 3) := by decide +kernel
theorem dX8_isState_12 : decode cX8_isState 12 = .ok (.iload_n 2, 1) := by decide +kernel
theorem dX8_isState_13 : decode cX8_isState 13 = .ok (.ifCond .eq 28, 3) := by decide +kernel
theorem dX8_isState_16 : decode cX8_isState 16 = .ok (.iload_n 1, 1) := by decide +kernel
theorem dX8_isState_17 : decode cX8_isState 17 = .ok (.iload_n 3, 1) := by decide +kernel
theorem dX8_isState_18 : decode cX8_isState 18 = .ok (.invokestatic 153, 3) := by decide +kernel
theorem dX8_isState_21 : decode cX8_isState 21 = .ok (.ifCond .eq 16, 3) := by decide +kernel
theorem dX8_isState_24 : decode cX8_isState 24 = .ok (.aload_n 0, 1) := by decide +kernel
theorem dX8_isState_25 : decode cX8_isState 25 = .ok (.getfield 46, 3) := by decide +kernel
theorem dX8_isState_28 : decode cX8_isState 28 = .ok (.iload_n 3, 1) := by decide +kernel
theorem dX8_isState_29 : decode cX8_isState 29 = .ok (.iaload, 1) := by decide +kernel
theorem dX8_isState_30 : decode cX8_isState 30 = .ok (.iload_n 1, 1) := by decide +kernel
theorem dX8_isState_31 : decode cX8_isState 31 = .ok (.iconst (-1), 1) := by decide +kernel
theorem dX8_isState_32 : decode cX8_isState 32 = .ok (.ixor, 1) := by decide +kernel
theorem dX8_isState_33 : decode cX8_isState 33 = .ok (.iand, 1) := by decide +kernel
theorem dX8_isState_34 : decode cX8_isState 34 = .ok (.ifCond .ne 7, 3) := by decide +kernel
theorem dX8_isState_37 : decode cX8_isState 37 = .ok (.iconst 1, 1) := by decide +kernel
theorem dX8_isState_38 : decode cX8_isState 38 = .ok (.goto 4, 3) := by decide +kernel
theorem dX8_isState_41 : decode cX8_isState 41 = .ok (.iconst 0, 1) := by decide +kernel
theorem dX8_isState_42 : decode cX8_isState 42 = .ok (.istore_n 2, 1) := by decide +kernel
theorem dX8_isState_43 : decode cX8_isState 43 = .ok (.iinc 3 1, 3) := by decide +kernel
theorem dX8_isState_46 : decode cX8_isState 46 = .ok (.goto (-42), 3) := by decide +kernel
theorem dX8_isState_49 : decode cX8_isState 49 = .ok (.iload_n 2, 1) := by decide +kernel
theorem dX8_isState_50 : decode cX8_isState 50 = .ok (.ireturn, 1) := by decide +kernel
theorem dX8_errorsOf_0 : decode cX8_errorsOf 0 = .ok (.aload_n 0, 1) := by decide +kernel
theorem dX8_errorsOf_1 : decode cX8_errorsOf 1 = .ok (.iload_n 1, 1) := by decide +kernel
theorem dX8_errorsOf_2 : decode cX8_errorsOf 2 = .ok (.iconst 1, 1) := by decide +kernel
theorem dX8_errorsOf_3 : decode cX8_errorsOf 3 = .ok (.invokevirtual 189, 3) := by decide +kernel
theorem dX8_errorsOf_6 : decode cX8_errorsOf 6 = .ok (.iload_n 2, 1) := by decide +kernel
theorem dX8_errorsOf_7 : decode cX8_errorsOf 7 = .ok (.iconst (-1), 1) := by decide +kernel
theorem dX8_errorsOf_8 : decode cX8_errorsOf 8 = .ok (.ixor, 1) := by decide +kernel
theorem dX8_errorsOf_9 : decode cX8_errorsOf 9 = .ok (.iand, 1) := by decide +kernel
theorem dX8_errorsOf_10 : decode cX8_errorsOf 10 = .ok (.invokestatic 192, 3) := by decide +kernel
theorem dX8_errorsOf_13 : decode cX8_errorsOf 13 = .ok (.aload_n 0, 1) := by decide +kernel
theorem dX8_errorsOf_14 : decode cX8_errorsOf 14 = .ok (.iload_n 1, 1) := by decide +kernel
theorem dX8_errorsOf_15 : decode cX8_errorsOf 15 = .ok (.iconst 0, 1) := by decide +kernel
theorem dX8_errorsOf_16 : decode cX8_errorsOf 16 = .ok (.invokevirtual 189, 3) := by decide +kernel
theorem dX8_errorsOf_19 : decode cX8_errorsOf 19 = .ok (.iload_n 2, 1) := by decide +kernel
theorem dX8_errorsOf_20 : decode cX8_errorsOf 20 = .ok (.iand, 1) := by decide +kernel
theorem dX8_errorsOf_21 : decode cX8_errorsOf 21 = .ok (.invokestatic 192, 3) := by decide +kernel
theorem dX8_errorsOf_24 : decode cX8_errorsOf 24 = .ok (.iadd, 1) := by decide +kernel
theorem dX8_errorsOf_25 : decode cX8_errorsOf 25 = .ok (.ireturn, 1) := by decide +kernel
theorem dX8_errors_0 : decode cX8_errors 0 = .ok (.iload_n 1, 1) := by decide +kernel
theorem dX8_errors_1 : decode cX8_errors 1 = .ok (.invokestatic 123, 3) := by decide +kernel
theorem dX8_errors_4 : decode cX8_errors 4 = .ok (.ifCond .eq 15, 3) := by decide +kernel
theorem dX8_errors_7 : decode cX8_errors 7 = .ok (.iload_n 2, 1) := by decide +kernel
theorem dX8_errors_8 : decode cX8_errors 8 = .ok (.i2l, 1) := by decide +kernel
theorem dX8_errors_9 : decode cX8_errors 9 = .ok (.lconst 0, 1) := by decide +kernel
theorem dX8_errors_10 : decode cX8_errors 10 = .ok (.ldc2_w 195, 3) := by decide +kernel
theorem dX8_errors_13 : decode cX8_errors 13 = .ok (.invokestatic 78, 3) := by decide +kernel
theorem dX8_errors_16 : decode cX8_errors 16 = .ok (.ifCond .ne 6, 3) := by decide +kernel
theorem dX8_errors_19 : decode cX8_errors 19 = .ok (.bipush (-2), 2) := by decide +kernel
theorem dX8_errors_21 : decode cX8_errors 21 = .ok (.ireturn, 1) := by decide +kernel
theorem dX8_errors_22 : decode cX8_errors 22 = .ok (.aload_n 0, 1) := by decide +kernel
theorem dX8_errors_23 : decode cX8_errors 23 = .ok (.invokevirtual 136, 3) := by decide +kernel
theorem dX8_errors_26 : decode cX8_errors 26 = .ok (.aload_n 0, 1) := by decide +kernel
theorem dX8_errors_27 : decode cX8_errors 27 = .ok (.iload_n 1, 1) := by decide +kernel
theorem dX8_errors_28 : decode cX8_errors 28 = .ok (.iload_n 2, 1) := by decide +kernel
theorem dX8_errors_29 : decode cX8_errors 29 = .ok (.invokevirtual 197, 3) := by decide +kernel
theorem dX8_errors_32 : decode cX8_errors 32 = .ok (.ireturn, 1) := by decide +kernel
theorem dX8_findWrong_0 : decode cX8_findWrong 0 = .ok (.iconst 0, 1) := by decide +kernel
theorem dX8_findWrong_1 : decode cX8_findWrong 1 = .ok (.istore_n 3, 1) := by decide +kernel
theorem dX8_findWrong_2 : decode cX8_findWrong 2 = .ok (.iload_n 3, 1) := by decide +kernel
theorem dX8_findWrong_3 : decode cX8_findWrong 3 = .ok (.bipush 12, 2) := by decide +kernel
theorem dX8_findWrong_5 : decode cX8_findWrong 5 = .ok (.if_icmp .ge 132, 3) := by decide +kernel
theorem dX8_findWrong_8 : decode cX8_findWrong 8 = .ok (.aload_n 0, 1) := by decide +kernel
theorem dX8_findWrong_9 : decode cX8_findWrong 9 = .ok (.iload_n 3, 1) := by decide +kernel
theorem dX8_findWrong_10 : decode cX8_findWrong 10 = .ok (.iconst 1, 1) := by decide +kernel
theorem dX8_findWrong_11 : decode cX8_findWrong 11 = .ok (.invokevirtual 189, 3) := by decide +kernel
theorem dX8_findWrong_14 : decode cX8_findWrong 14 = .ok (.istore 4, 2) := by decide +kernel
theorem dX8_findWrong_16 : decode cX8_findWrong 16 = .ok (.aload_n 0, 1) := by decide +kernel
theorem dX8_findWrong_17 : decode cX8_findWrong 17 = .ok (.iload_n 3, 1) := by decide +kernel
theorem dX8_findWrong_18 : decode cX8_findWrong 18 = .ok (.iconst 0, 1) := by decide +kernel
theorem dX8_findWrong_19 : decode cX8_findWrong 19 = .ok (.invokevirtual 189, 3) := by decide +kernel
theorem dX8_findWrong_22 : decode cX8_findWrong 22 = .ok (.istore 5, 2) := by decide +kernel
theorem dX8_findWrong_24 : decode cX8_findWrong 24 = .ok (.iload_n 1, 1) := by decide +kernel
theorem dX8_findWrong_25 : decode cX8_findWrong 25 = .ok (.iconst (-1), 1) := by decide +kernel
theorem dX8_findWrong_26 : decode cX8_findWrong 26 = .ok (.if_icmp .eq 23, 3) := by decide +kernel
theorem dX8_findWrong_29 : decode cX8_findWrong 29 = .ok (.iload 4, 2) := by decide +kernel
theorem dX8_findWrong_31 : decode cX8_findWrong 31 = .ok (.iconst 1, 1) := by decide +kernel
theorem dX8_findWrong_32 : decode cX8_findWrong 32 = .ok (.iload_n 1, 1) := by decide +kernel
theorem dX8_findWrong_33 : decode cX8_findWrong 33 = .ok (.ishl, 1) := by decide +kernel
theorem dX8_findWrong_34 : decode cX8_findWrong 34 = .ok (.iconst (-1), 1) := by decide +kernel
theorem dX8_findWrong_35 : decode cX8_findWrong 35 = .ok (.ixor, 1) := by decide +kernel
theorem dX8_findWrong_36 : decode cX8_findWrong 36 = .ok (.iand, 1) := by decide +kernel
theorem dX8_findWrong_37 : decode cX8_findWrong 37 = .ok (.istore 4, 2) := by decide +kernel
theorem dX8_findWrong_39 : decode cX8_findWrong 39 = .ok (.iload 5, 2) := by decide +kernel
theorem dX8_findWrong_41 : decode cX8_findWrong 41 = .ok (.iconst 1, 1) := by decide +kernel
theorem dX8_findWrong_42 : decode cX8_findWrong 42 = .ok (.iload_n 1, 1) := by decide +kernel
theorem dX8_findWrong_43 : decode cX8_findWrong 43 = .ok (.ishl, 1) := by decide +kernel
theorem dX8_findWrong_44 : decode cX8_findWrong 44 = .ok (.iconst (-1), 1) := by decide +kernel
theorem dX8_findWrong_45 : decode cX8_findWrong 45 = .ok (.ixor, 1) := by decide +kernel
theorem dX8_findWrong_46 : decode cX8_findWrong 46 = .ok (.iand, 1) := by decide +kernel
theorem dX8_findWrong_47 : decode cX8_findWrong 47 = .ok (.istore 5, 2) := by decide +kernel
theorem dX8_findWrong_49 : decode cX8_findWrong 49 = .ok (.iload_n 2, 1) := by decide +kernel
theorem dX8_findWrong_50 : decode cX8_findWrong 50 = .ok (.iconst (-1), 1) := by decide +kernel
theorem dX8_findWrong_51 : decode cX8_findWrong 51 = .ok (.if_icmp .eq 28, 3) := by decide +kernel
theorem dX8_findWrong_54 : decode cX8_findWrong 54 = .ok (.iload 4, 2) := by decide +kernel
theorem dX8_findWrong_56 : decode cX8_findWrong 56 = .ok (.iload 5, 2) := by decide +kernel
theorem dX8_findWrong_58 : decode cX8_findWrong 58 = .ok (.ixor, 1) := by decide +kernel
theorem dX8_findWrong_59 : decode cX8_findWrong 59 = .ok (.iconst 1, 1) := by decide +kernel
theorem dX8_findWrong_60 : decode cX8_findWrong 60 = .ok (.iload_n 2, 1) := by decide +kernel
theorem dX8_findWrong_61 : decode cX8_findWrong 61 = .ok (.ishl, 1) := by decide +kernel
theorem dX8_findWrong_62 : decode cX8_findWrong 62 = .ok (.iand, 1) := by decide +kernel
theorem dX8_findWrong_63 : decode cX8_findWrong 63 = .ok (.istore 6, 2) := by decide +kernel
theorem dX8_findWrong_65 : decode cX8_findWrong 65 = .ok (.iload 4, 2) := by decide +kernel
theorem dX8_findWrong_67 : decode cX8_findWrong 67 = .ok (.iload 6, 2) := by decide +kernel
theorem dX8_findWrong_69 : decode cX8_findWrong 69 = .ok (.ixor, 1) := by decide +kernel
theorem dX8_findWrong_70 : decode cX8_findWrong 70 = .ok (.istore 4, 2) := by decide +kernel
theorem dX8_findWrong_72 : decode cX8_findWrong 72 = .ok (.iload 5, 2) := by decide +kernel
theorem dX8_findWrong_74 : decode cX8_findWrong 74 = .ok (.iload 6, 2) := by decide +kernel
theorem dX8_findWrong_76 : decode cX8_findWrong 76 = .ok (.ixor, 1) := by decide +kernel
theorem dX8_findWrong_77 : decode cX8_findWrong 77 = .ok (.istore 5, 2) := by decide +kernel
theorem dX8_findWrong_79 : decode cX8_findWrong 79 = .ok (.iconst 0, 1) := by decide +kernel
theorem dX8_findWrong_80 : decode cX8_findWrong 80 = .ok (.istore 6, 2) := by decide +kernel
theorem dX8_findWrong_82 : decode cX8_findWrong 82 = .ok (.iload 6, 2) := by decide +kernel
theorem dX8_findWrong_84 : decode cX8_findWrong 84 = .ok (.iconst 1, 1) := by decide +kernel
theorem dX8_findWrong_85 : decode cX8_findWrong 85 = .ok (.aload_n 0, 1) := by decide +kernel
theorem dX8_findWrong_86 : decode cX8_findWrong 86 = .ok (.invokevirtual 111, 3) := by decide +kernel
theorem dX8_findWrong_89 : decode cX8_findWrong 89 = .ok (.ishl, 1) := by decide +kernel
theorem dX8_findWrong_90 : decode cX8_findWrong 90 = .ok (.if_icmp .ge 41, 3) := by decide +kernel
theorem dX8_findWrong_93 : decode cX8_findWrong 93 = .ok (.aload_n 0, 1) := by decide +kernel
theorem dX8_findWrong_94 : decode cX8_findWrong 94 = .ok (.getfield 49, 3) := by decide +kernel
theorem dX8_findWrong_97 : decode cX8_findWrong 97 = .ok (.sipush 128, 3) := by decide +kernel
theorem dX8_findWrong_100 : decode cX8_findWrong 100 = .ok (.iload_n 3, 1) := by decide +kernel
theorem dX8_findWrong_101 : decode cX8_findWrong 101 = .ok (.imul, 1) := by decide +kernel
theorem dX8_findWrong_102 : decode cX8_findWrong 102 = .ok (.iload 6, 2) := by decide +kernel
theorem dX8_findWrong_104 : decode cX8_findWrong 104 = .ok (.iadd, 1) := by decide +kernel
theorem dX8_findWrong_105 : decode cX8_findWrong 105 = .ok (.iload 4, 2) := by decide +kernel
theorem dX8_findWrong_107 : decode cX8_findWrong 107 = .ok (.iload 6, 2) := by decide +kernel
theorem dX8_findWrong_109 : decode cX8_findWrong 109 = .ok (.iconst (-1), 1) := by decide +kernel
theorem dX8_findWrong_110 : decode cX8_findWrong 110 = .ok (.ixor, 1) := by decide +kernel
theorem dX8_findWrong_111 : decode cX8_findWrong 111 = .ok (.iand, 1) := by decide +kernel
theorem dX8_findWrong_112 : decode cX8_findWrong 112 = .ok (.invokestatic 192, 3) := by decide +kernel
theorem dX8_findWrong_115 : decode cX8_findWrong 115 = .ok (.iload 5, 2) := by decide +kernel
theorem dX8_findWrong_117 : decode cX8_findWrong 117 = .ok (.iload 6, 2) := by decide +kernel
theorem dX8_findWrong_119 : decode cX8_findWrong 119 = .ok (.iand, 1) := by decide +kernel
theorem dX8_findWrong_120 : decode cX8_findWrong 120 = .ok (.invokestatic 192, 3) := by decide +kernel
theorem dX8_findWrong_123 : decode cX8_findWrong 123 = .ok (.iadd, 1) := by decide +kernel
theorem dX8_findWrong_124 : decode cX8_findWrong 124 = .ok (.iastore, 1) := by decide +kernel
theorem dX8_findWrong_125 : decode cX8_findWrong 125 = .ok (.iinc 6 1, 3) := by decide +kernel
theorem dX8_findWrong_128 : decode cX8_findWrong 128 = .ok (.goto (-46), 3) := by decide +kernel
theorem dX8_findWrong_131 : decode cX8_findWrong 131 = .ok (.iinc 3 1, 3) := by decide +kernel
theorem dX8_findWrong_134 : decode cX8_findWrong 134 = .ok (.goto (-132), 3) := by decide +kernel
theorem dX8_findWrong_137 : decode cX8_findWrong 137 = .ok (.return_, 1) := by decide +kernel
theorem dX8_offNow_0 : decode cX8_offNow 0 = .ok (.iconst 0, 1) := by decide +kernel
theorem dX8_offNow_1 : decode cX8_offNow 1 = .ok (.istore_n 2, 1) := by decide +kernel
theorem dX8_offNow_2 : decode cX8_offNow 2 = .ok (.iconst 0, 1) := by decide +kernel
theorem dX8_offNow_3 : decode cX8_offNow 3 = .ok (.istore_n 3, 1) := by decide +kernel
theorem dX8_offNow_4 : decode cX8_offNow 4 = .ok (.iload_n 3, 1) := by decide +kernel
theorem dX8_offNow_5 : decode cX8_offNow 5 = .ok (.bipush 12, 2) := by decide +kernel
theorem dX8_offNow_7 : decode cX8_offNow 7 = .ok (.if_icmp .ge 89, 3) := by decide +kernel
theorem dX8_offNow_10 : decode cX8_offNow 10 = .ok (.iconst 0, 1) := by decide +kernel
theorem dX8_offNow_11 : decode cX8_offNow 11 = .ok (.istore 4, 2) := by decide +kernel
theorem dX8_offNow_13 : decode cX8_offNow 13 = .ok (.aload_n 0, 1) := by decide +kernel
theorem dX8_offNow_14 : decode cX8_offNow 14 = .ok (.getfield 49, 3) := by decide +kernel
theorem dX8_offNow_17 : decode cX8_offNow 17 = .ok (.sipush 128, 3) := by decide +kernel
theorem dX8_offNow_20 : decode cX8_offNow 20 = .ok (.iload_n 3, 1) := by decide +kernel
theorem dX8_offNow_21 : decode cX8_offNow 21 = .ok (.imul, 1) := by decide +kernel
theorem dX8_offNow_22 : decode cX8_offNow 22 = .ok (.iaload, 1) := by decide +kernel
theorem dX8_offNow_23 : decode cX8_offNow 23 = .ok (.istore 5, 2) := by decide +kernel
theorem dX8_offNow_25 : decode cX8_offNow 25 = .ok (.iconst 0, 1) := by decide +kernel
theorem dX8_offNow_26 : decode cX8_offNow 26 = .ok (.istore 6, 2) := by decide +kernel
theorem dX8_offNow_28 : decode cX8_offNow 28 = .ok (.iload 6, 2) := by decide +kernel
theorem dX8_offNow_30 : decode cX8_offNow 30 = .ok (.iload_n 1, 1) := by decide +kernel
theorem dX8_offNow_31 : decode cX8_offNow 31 = .ok (.if_icmp .ge 54, 3) := by decide +kernel
theorem dX8_offNow_34 : decode cX8_offNow 34 = .ok (.iload 4, 2) := by decide +kernel
theorem dX8_offNow_36 : decode cX8_offNow 36 = .ok (.iconst 1, 1) := by decide +kernel
theorem dX8_offNow_37 : decode cX8_offNow 37 = .ok (.aload_n 0, 1) := by decide +kernel
theorem dX8_offNow_38 : decode cX8_offNow 38 = .ok (.getfield 52, 3) := by decide +kernel
theorem dX8_offNow_41 : decode cX8_offNow 41 = .ok (.iload 6, 2) := by decide +kernel
theorem dX8_offNow_43 : decode cX8_offNow 43 = .ok (.iaload, 1) := by decide +kernel
theorem dX8_offNow_44 : decode cX8_offNow 44 = .ok (.ishl, 1) := by decide +kernel
theorem dX8_offNow_45 : decode cX8_offNow 45 = .ok (.ior, 1) := by decide +kernel
theorem dX8_offNow_46 : decode cX8_offNow 46 = .ok (.istore 4, 2) := by decide +kernel
theorem dX8_offNow_48 : decode cX8_offNow 48 = .ok (.aload_n 0, 1) := by decide +kernel
theorem dX8_offNow_49 : decode cX8_offNow 49 = .ok (.getfield 49, 3) := by decide +kernel
theorem dX8_offNow_52 : decode cX8_offNow 52 = .ok (.sipush 128, 3) := by decide +kernel
theorem dX8_offNow_55 : decode cX8_offNow 55 = .ok (.iload_n 3, 1) := by decide +kernel
theorem dX8_offNow_56 : decode cX8_offNow 56 = .ok (.imul, 1) := by decide +kernel
theorem dX8_offNow_57 : decode cX8_offNow 57 = .ok (.iload 4, 2) := by decide +kernel
theorem dX8_offNow_59 : decode cX8_offNow 59 = .ok (.iadd, 1) := by decide +kernel
theorem dX8_offNow_60 : decode cX8_offNow 60 = .ok (.iaload, 1) := by decide +kernel
theorem dX8_offNow_61 : decode cX8_offNow 61 = .ok (.istore 7, 2) := by decide +kernel
theorem dX8_offNow_63 : decode cX8_offNow 63 = .ok (.iload 7, 2) := by decide +kernel
theorem dX8_offNow_65 : decode cX8_offNow 65 = .ok (.iload 5, 2) := by decide +kernel
theorem dX8_offNow_67 : decode cX8_offNow 67 = .ok (.if_icmp .ge 8, 3) := by decide +kernel
theorem dX8_offNow_70 : decode cX8_offNow 70 = .ok (.iload 7, 2) := by decide +kernel
theorem dX8_offNow_72 : decode cX8_offNow 72 = .ok (.goto 5, 3) := by decide +kernel
theorem dX8_offNow_75 : decode cX8_offNow 75 = .ok (.iload 5, 2) := by decide +kernel
theorem dX8_offNow_77 : decode cX8_offNow 77 = .ok (.istore 5, 2) := by decide +kernel
theorem dX8_offNow_79 : decode cX8_offNow 79 = .ok (.iinc 6 1, 3) := by decide +kernel
theorem dX8_offNow_82 : decode cX8_offNow 82 = .ok (.goto (-54), 3) := by decide +kernel
theorem dX8_offNow_85 : decode cX8_offNow 85 = .ok (.iload_n 2, 1) := by decide +kernel
theorem dX8_offNow_86 : decode cX8_offNow 86 = .ok (.iload 5, 2) := by decide +kernel
theorem dX8_offNow_88 : decode cX8_offNow 88 = .ok (.iadd, 1) := by decide +kernel
theorem dX8_offNow_89 : decode cX8_offNow 89 = .ok (.istore_n 2, 1) := by decide +kernel
theorem dX8_offNow_90 : decode cX8_offNow 90 = .ok (.iinc 3 1, 3) := by decide +kernel
theorem dX8_offNow_93 : decode cX8_offNow 93 = .ok (.goto (-89), 3) := by decide +kernel
theorem dX8_offNow_96 : decode cX8_offNow 96 = .ok (.iload_n 2, 1) := by decide +kernel
theorem dX8_offNow_97 : decode cX8_offNow 97 = .ok (.ireturn, 1) := by decide +kernel
theorem dX8_goesOn_0 : decode cX8_goesOn 0 = .ok (.iload_n 1, 1) := by decide +kernel
theorem dX8_goesOn_1 : decode cX8_goesOn 1 = .ok (.iconst 2, 1) := by decide +kernel
theorem dX8_goesOn_2 : decode cX8_goesOn 2 = .ok (.isub, 1) := by decide +kernel
theorem dX8_goesOn_3 : decode cX8_goesOn 3 = .ok (.istore_n 2, 1) := by decide +kernel
theorem dX8_goesOn_4 : decode cX8_goesOn 4 = .ok (.iload_n 2, 1) := by decide +kernel
theorem dX8_goesOn_5 : decode cX8_goesOn 5 = .ok (.ifCond .lt 26, 3) := by decide +kernel
theorem dX8_goesOn_8 : decode cX8_goesOn 8 = .ok (.aload_n 0, 1) := by decide +kernel
theorem dX8_goesOn_9 : decode cX8_goesOn 9 = .ok (.getfield 52, 3) := by decide +kernel
theorem dX8_goesOn_12 : decode cX8_goesOn 12 = .ok (.iload_n 2, 1) := by decide +kernel
theorem dX8_goesOn_13 : decode cX8_goesOn 13 = .ok (.iaload, 1) := by decide +kernel
theorem dX8_goesOn_14 : decode cX8_goesOn 14 = .ok (.aload_n 0, 1) := by decide +kernel
theorem dX8_goesOn_15 : decode cX8_goesOn 15 = .ok (.getfield 52, 3) := by decide +kernel
theorem dX8_goesOn_18 : decode cX8_goesOn 18 = .ok (.iload_n 2, 1) := by decide +kernel
theorem dX8_goesOn_19 : decode cX8_goesOn 19 = .ok (.iconst 1, 1) := by decide +kernel
theorem dX8_goesOn_20 : decode cX8_goesOn 20 = .ok (.iadd, 1) := by decide +kernel
theorem dX8_goesOn_21 : decode cX8_goesOn 21 = .ok (.iaload, 1) := by decide +kernel
theorem dX8_goesOn_22 : decode cX8_goesOn 22 = .ok (.if_icmp .le 9, 3) := by decide +kernel
theorem dX8_goesOn_25 : decode cX8_goesOn 25 = .ok (.iinc 2 (-1), 3) := by decide +kernel
theorem dX8_goesOn_28 : decode cX8_goesOn 28 = .ok (.goto (-24), 3) := by decide +kernel
theorem dX8_goesOn_31 : decode cX8_goesOn 31 = .ok (.iload_n 2, 1) := by decide +kernel
theorem dX8_goesOn_32 : decode cX8_goesOn 32 = .ok (.ifCond .ge 5, 3) := by decide +kernel
theorem dX8_goesOn_35 : decode cX8_goesOn 35 = .ok (.iconst 0, 1) := by decide +kernel
theorem dX8_goesOn_36 : decode cX8_goesOn 36 = .ok (.ireturn, 1) := by decide +kernel
theorem dX8_goesOn_37 : decode cX8_goesOn 37 = .ok (.iload_n 1, 1) := by decide +kernel
theorem dX8_goesOn_38 : decode cX8_goesOn 38 = .ok (.iconst 1, 1) := by decide +kernel
theorem dX8_goesOn_39 : decode cX8_goesOn 39 = .ok (.isub, 1) := by decide +kernel
theorem dX8_goesOn_40 : decode cX8_goesOn 40 = .ok (.istore_n 3, 1) := by decide +kernel
theorem dX8_goesOn_41 : decode cX8_goesOn 41 = .ok (.aload_n 0, 1) := by decide +kernel
theorem dX8_goesOn_42 : decode cX8_goesOn 42 = .ok (.getfield 52, 3) := by decide +kernel
theorem dX8_goesOn_45 : decode cX8_goesOn 45 = .ok (.iload_n 3, 1) := by decide +kernel
theorem dX8_goesOn_46 : decode cX8_goesOn 46 = .ok (.iaload, 1) := by decide +kernel
theorem dX8_goesOn_47 : decode cX8_goesOn 47 = .ok (.aload_n 0, 1) := by decide +kernel
end
section
theorem dX8_goesOn_48 : decode cX8_goesOn 48 = .ok (.getfield 52, 3) := by decide +kernel
theorem dX8_goesOn_51 : decode cX8_goesOn 51 = .ok (.iload_n 2, 1) := by decide +kernel
theorem dX8_goesOn_52 : decode cX8_goesOn 52 = .ok (.iaload, 1) := by decide +kernel
theorem dX8_goesOn_53 : decode cX8_goesOn 53 = .ok (.if_icmp .ge 9, 3) := by decide +kernel
theorem dX8_goesOn_56 : decode cX8_goesOn 56 = .ok (.iinc 3 (-1), 3) := by decide +kernel
theorem dX8_goesOn_59 : decode cX8_goesOn 59 = .ok (.goto (-18), 3) := by decide +kernel
theorem dX8_goesOn_62 : decode cX8_goesOn 62 = .ok (.aload_n 0, 1) := by decide +kernel
theorem dX8_goesOn_63 : decode cX8_goesOn 63 = .ok (.iload_n 2, 1) := by decide +kernel
theorem dX8_goesOn_64 : decode cX8_goesOn 64 = .ok (.iload_n 3, 1) := by decide +kernel
theorem dX8_goesOn_65 : decode cX8_goesOn 65 = .ok (.invokevirtual 200, 3) := by decide +kernel
theorem dX8_goesOn_68 : decode cX8_goesOn 68 = .ok (.iload_n 2, 1) := by decide +kernel
theorem dX8_goesOn_69 : decode cX8_goesOn 69 = .ok (.iconst 1, 1) := by decide +kernel
theorem dX8_goesOn_70 : decode cX8_goesOn 70 = .ok (.iadd, 1) := by decide +kernel
theorem dX8_goesOn_71 : decode cX8_goesOn 71 = .ok (.istore 4, 2) := by decide +kernel
theorem dX8_goesOn_73 : decode cX8_goesOn 73 = .ok (.iload_n 1, 1) := by decide +kernel
theorem dX8_goesOn_74 : decode cX8_goesOn 74 = .ok (.iconst 1, 1) := by decide +kernel
theorem dX8_goesOn_75 : decode cX8_goesOn 75 = .ok (.isub, 1) := by decide +kernel
theorem dX8_goesOn_76 : decode cX8_goesOn 76 = .ok (.istore 5, 2) := by decide +kernel
theorem dX8_goesOn_78 : decode cX8_goesOn 78 = .ok (.iload 4, 2) := by decide +kernel
theorem dX8_goesOn_80 : decode cX8_goesOn 80 = .ok (.iload 5, 2) := by decide +kernel
theorem dX8_goesOn_82 : decode cX8_goesOn 82 = .ok (.if_icmp .ge 20, 3) := by decide +kernel
theorem dX8_goesOn_85 : decode cX8_goesOn 85 = .ok (.aload_n 0, 1) := by decide +kernel
theorem dX8_goesOn_86 : decode cX8_goesOn 86 = .ok (.iload 4, 2) := by decide +kernel
theorem dX8_goesOn_88 : decode cX8_goesOn 88 = .ok (.iload 5, 2) := by decide +kernel
theorem dX8_goesOn_90 : decode cX8_goesOn 90 = .ok (.invokevirtual 200, 3) := by decide +kernel
theorem dX8_goesOn_93 : decode cX8_goesOn 93 = .ok (.iinc 4 1, 3) := by decide +kernel
theorem dX8_goesOn_96 : decode cX8_goesOn 96 = .ok (.iinc 5 (-1), 3) := by decide +kernel
theorem dX8_goesOn_99 : decode cX8_goesOn 99 = .ok (.goto (-21), 3) := by decide +kernel
theorem dX8_goesOn_102 : decode cX8_goesOn 102 = .ok (.iconst 1, 1) := by decide +kernel
theorem dX8_goesOn_103 : decode cX8_goesOn 103 = .ok (.ireturn, 1) := by decide +kernel
theorem dX8_swaps_0 : decode cX8_swaps 0 = .ok (.aload_n 0, 1) := by decide +kernel
theorem dX8_swaps_1 : decode cX8_swaps 1 = .ok (.getfield 52, 3) := by decide +kernel
theorem dX8_swaps_4 : decode cX8_swaps 4 = .ok (.iload_n 1, 1) := by decide +kernel
theorem dX8_swaps_5 : decode cX8_swaps 5 = .ok (.iaload, 1) := by decide +kernel
theorem dX8_swaps_6 : decode cX8_swaps 6 = .ok (.istore_n 3, 1) := by decide +kernel
theorem dX8_swaps_7 : decode cX8_swaps 7 = .ok (.aload_n 0, 1) := by decide +kernel
theorem dX8_swaps_8 : decode cX8_swaps 8 = .ok (.getfield 52, 3) := by decide +kernel
theorem dX8_swaps_11 : decode cX8_swaps 11 = .ok (.iload_n 1, 1) := by decide +kernel
theorem dX8_swaps_12 : decode cX8_swaps 12 = .ok (.aload_n 0, 1) := by decide +kernel
theorem dX8_swaps_13 : decode cX8_swaps 13 = .ok (.getfield 52, 3) := by decide +kernel
theorem dX8_swaps_16 : decode cX8_swaps 16 = .ok (.iload_n 2, 1) := by decide +kernel
theorem dX8_swaps_17 : decode cX8_swaps 17 = .ok (.iaload, 1) := by decide +kernel
theorem dX8_swaps_18 : decode cX8_swaps 18 = .ok (.iastore, 1) := by decide +kernel
theorem dX8_swaps_19 : decode cX8_swaps 19 = .ok (.aload_n 0, 1) := by decide +kernel
theorem dX8_swaps_20 : decode cX8_swaps 20 = .ok (.getfield 52, 3) := by decide +kernel
theorem dX8_swaps_23 : decode cX8_swaps 23 = .ok (.iload_n 2, 1) := by decide +kernel
theorem dX8_swaps_24 : decode cX8_swaps 24 = .ok (.iload_n 3, 1) := by decide +kernel
theorem dX8_swaps_25 : decode cX8_swaps 25 = .ok (.iastore, 1) := by decide +kernel
theorem dX8_swaps_26 : decode cX8_swaps 26 = .ok (.return_, 1) := by decide +kernel
theorem dX8_findOrder_0 : decode cX8_findOrder 0 = .ok (.aload_n 0, 1) := by decide +kernel
theorem dX8_findOrder_1 : decode cX8_findOrder 1 = .ok (.iload_n 1, 1) := by decide +kernel
theorem dX8_findOrder_2 : decode cX8_findOrder 2 = .ok (.iload_n 2, 1) := by decide +kernel
theorem dX8_findOrder_3 : decode cX8_findOrder 3 = .ok (.invokevirtual 204, 3) := by decide +kernel
theorem dX8_findOrder_6 : decode cX8_findOrder 6 = .ok (.iconst 0, 1) := by decide +kernel
theorem dX8_findOrder_7 : decode cX8_findOrder 7 = .ok (.istore_n 3, 1) := by decide +kernel
theorem dX8_findOrder_8 : decode cX8_findOrder 8 = .ok (.iconst 0, 1) := by decide +kernel
theorem dX8_findOrder_9 : decode cX8_findOrder 9 = .ok (.istore 4, 2) := by decide +kernel
theorem dX8_findOrder_11 : decode cX8_findOrder 11 = .ok (.iload 4, 2) := by decide +kernel
theorem dX8_findOrder_13 : decode cX8_findOrder 13 = .ok (.aload_n 0, 1) := by decide +kernel
theorem dX8_findOrder_14 : decode cX8_findOrder 14 = .ok (.invokevirtual 111, 3) := by decide +kernel
theorem dX8_findOrder_17 : decode cX8_findOrder 17 = .ok (.if_icmp .ge 26, 3) := by decide +kernel
theorem dX8_findOrder_20 : decode cX8_findOrder 20 = .ok (.iload 4, 2) := by decide +kernel
theorem dX8_findOrder_22 : decode cX8_findOrder 22 = .ok (.iload_n 1, 1) := by decide +kernel
theorem dX8_findOrder_23 : decode cX8_findOrder 23 = .ok (.if_icmp .eq 14, 3) := by decide +kernel
theorem dX8_findOrder_26 : decode cX8_findOrder 26 = .ok (.aload_n 0, 1) := by decide +kernel
theorem dX8_findOrder_27 : decode cX8_findOrder 27 = .ok (.getfield 52, 3) := by decide +kernel
theorem dX8_findOrder_30 : decode cX8_findOrder 30 = .ok (.iload_n 3, 1) := by decide +kernel
theorem dX8_findOrder_31 : decode cX8_findOrder 31 = .ok (.iload 4, 2) := by decide +kernel
theorem dX8_findOrder_33 : decode cX8_findOrder 33 = .ok (.iastore, 1) := by decide +kernel
theorem dX8_findOrder_34 : decode cX8_findOrder 34 = .ok (.iinc 3 1, 3) := by decide +kernel
theorem dX8_findOrder_37 : decode cX8_findOrder 37 = .ok (.iinc 4 1, 3) := by decide +kernel
theorem dX8_findOrder_40 : decode cX8_findOrder 40 = .ok (.goto (-29), 3) := by decide +kernel
theorem dX8_findOrder_43 : decode cX8_findOrder 43 = .ok (.aload_n 0, 1) := by decide +kernel
theorem dX8_findOrder_44 : decode cX8_findOrder 44 = .ok (.sipush 10000, 3) := by decide +kernel
theorem dX8_findOrder_47 : decode cX8_findOrder 47 = .ok (.putfield 207, 3) := by decide +kernel
theorem dX8_findOrder_50 : decode cX8_findOrder 50 = .ok (.aload_n 0, 1) := by decide +kernel
theorem dX8_findOrder_51 : decode cX8_findOrder 51 = .ok (.iconst 0, 1) := by decide +kernel
theorem dX8_findOrder_52 : decode cX8_findOrder 52 = .ok (.putfield 210, 3) := by decide +kernel
theorem dX8_findOrder_55 : decode cX8_findOrder 55 = .ok (.iconst 1, 1) := by decide +kernel
theorem dX8_findOrder_56 : decode cX8_findOrder 56 = .ok (.istore 4, 2) := by decide +kernel
theorem dX8_findOrder_58 : decode cX8_findOrder 58 = .ok (.iload 4, 2) := by decide +kernel
theorem dX8_findOrder_60 : decode cX8_findOrder 60 = .ok (.ifCond .eq 92, 3) := by decide +kernel
theorem dX8_findOrder_63 : decode cX8_findOrder 63 = .ok (.aload_n 0, 1) := by decide +kernel
theorem dX8_findOrder_64 : decode cX8_findOrder 64 = .ok (.iload_n 3, 1) := by decide +kernel
theorem dX8_findOrder_65 : decode cX8_findOrder 65 = .ok (.invokevirtual 213, 3) := by decide +kernel
theorem dX8_findOrder_68 : decode cX8_findOrder 68 = .ok (.istore 5, 2) := by decide +kernel
theorem dX8_findOrder_70 : decode cX8_findOrder 70 = .ok (.iload 5, 2) := by decide +kernel
theorem dX8_findOrder_72 : decode cX8_findOrder 72 = .ok (.aload_n 0, 1) := by decide +kernel
theorem dX8_findOrder_73 : decode cX8_findOrder 73 = .ok (.getfield 207, 3) := by decide +kernel
theorem dX8_findOrder_76 : decode cX8_findOrder 76 = .ok (.if_icmp .ge 43, 3) := by decide +kernel
theorem dX8_findOrder_79 : decode cX8_findOrder 79 = .ok (.aload_n 0, 1) := by decide +kernel
theorem dX8_findOrder_80 : decode cX8_findOrder 80 = .ok (.iload 5, 2) := by decide +kernel
theorem dX8_findOrder_82 : decode cX8_findOrder 82 = .ok (.putfield 207, 3) := by decide +kernel
theorem dX8_findOrder_85 : decode cX8_findOrder 85 = .ok (.aload_n 0, 1) := by decide +kernel
theorem dX8_findOrder_86 : decode cX8_findOrder 86 = .ok (.iconst 0, 1) := by decide +kernel
theorem dX8_findOrder_87 : decode cX8_findOrder 87 = .ok (.putfield 210, 3) := by decide +kernel
theorem dX8_findOrder_90 : decode cX8_findOrder 90 = .ok (.iconst 0, 1) := by decide +kernel
theorem dX8_findOrder_91 : decode cX8_findOrder 91 = .ok (.istore 6, 2) := by decide +kernel
theorem dX8_findOrder_93 : decode cX8_findOrder 93 = .ok (.iload 6, 2) := by decide +kernel
theorem dX8_findOrder_95 : decode cX8_findOrder 95 = .ok (.iload_n 3, 1) := by decide +kernel
theorem dX8_findOrder_96 : decode cX8_findOrder 96 = .ok (.if_icmp .ge 23, 3) := by decide +kernel
theorem dX8_findOrder_99 : decode cX8_findOrder 99 = .ok (.aload_n 0, 1) := by decide +kernel
theorem dX8_findOrder_100 : decode cX8_findOrder 100 = .ok (.getfield 55, 3) := by decide +kernel
theorem dX8_findOrder_103 : decode cX8_findOrder 103 = .ok (.iload 6, 2) := by decide +kernel
theorem dX8_findOrder_105 : decode cX8_findOrder 105 = .ok (.aload_n 0, 1) := by decide +kernel
theorem dX8_findOrder_106 : decode cX8_findOrder 106 = .ok (.getfield 52, 3) := by decide +kernel
theorem dX8_findOrder_109 : decode cX8_findOrder 109 = .ok (.iload 6, 2) := by decide +kernel
theorem dX8_findOrder_111 : decode cX8_findOrder 111 = .ok (.iaload, 1) := by decide +kernel
theorem dX8_findOrder_112 : decode cX8_findOrder 112 = .ok (.iastore, 1) := by decide +kernel
theorem dX8_findOrder_113 : decode cX8_findOrder 113 = .ok (.iinc 6 1, 3) := by decide +kernel
theorem dX8_findOrder_116 : decode cX8_findOrder 116 = .ok (.goto (-23), 3) := by decide +kernel
theorem dX8_findOrder_119 : decode cX8_findOrder 119 = .ok (.aload_n 0, 1) := by decide +kernel
theorem dX8_findOrder_120 : decode cX8_findOrder 120 = .ok (.dup, 1) := by decide +kernel
theorem dX8_findOrder_121 : decode cX8_findOrder 121 = .ok (.getfield 210, 3) := by decide +kernel
theorem dX8_findOrder_124 : decode cX8_findOrder 124 = .ok (.iload 5, 2) := by decide +kernel
theorem dX8_findOrder_126 : decode cX8_findOrder 126 = .ok (.aload_n 0, 1) := by decide +kernel
theorem dX8_findOrder_127 : decode cX8_findOrder 127 = .ok (.getfield 207, 3) := by decide +kernel
theorem dX8_findOrder_130 : decode cX8_findOrder 130 = .ok (.if_icmp .ne 7, 3) := by decide +kernel
theorem dX8_findOrder_133 : decode cX8_findOrder 133 = .ok (.iconst 1, 1) := by decide +kernel
theorem dX8_findOrder_134 : decode cX8_findOrder 134 = .ok (.goto 4, 3) := by decide +kernel
theorem dX8_findOrder_137 : decode cX8_findOrder 137 = .ok (.iconst 0, 1) := by decide +kernel
theorem dX8_findOrder_138 : decode cX8_findOrder 138 = .ok (.iadd, 1) := by decide +kernel
theorem dX8_findOrder_139 : decode cX8_findOrder 139 = .ok (.putfield 210, 3) := by decide +kernel
theorem dX8_findOrder_142 : decode cX8_findOrder 142 = .ok (.aload_n 0, 1) := by decide +kernel
theorem dX8_findOrder_143 : decode cX8_findOrder 143 = .ok (.iload_n 3, 1) := by decide +kernel
theorem dX8_findOrder_144 : decode cX8_findOrder 144 = .ok (.invokevirtual 216, 3) := by decide +kernel
theorem dX8_findOrder_147 : decode cX8_findOrder 147 = .ok (.istore 4, 2) := by decide +kernel
theorem dX8_findOrder_149 : decode cX8_findOrder 149 = .ok (.goto (-91), 3) := by decide +kernel
theorem dX8_findOrder_152 : decode cX8_findOrder 152 = .ok (.return_, 1) := by decide +kernel
theorem dX8_findBest_0 : decode cX8_findBest 0 = .ok (.aload_n 0, 1) := by decide +kernel
theorem dX8_findBest_1 : decode cX8_findBest 1 = .ok (.invokevirtual 136, 3) := by decide +kernel
theorem dX8_findBest_4 : decode cX8_findBest 4 = .ok (.aload_n 0, 1) := by decide +kernel
theorem dX8_findBest_5 : decode cX8_findBest 5 = .ok (.iconst (-1), 1) := by decide +kernel
theorem dX8_findBest_6 : decode cX8_findBest 6 = .ok (.iconst (-1), 1) := by decide +kernel
theorem dX8_findBest_7 : decode cX8_findBest 7 = .ok (.invokevirtual 219, 3) := by decide +kernel
theorem dX8_findBest_10 : decode cX8_findBest 10 = .ok (.return_, 1) := by decide +kernel
theorem dX8_off_0 : decode cX8_off 0 = .ok (.iload_n 1, 1) := by decide +kernel
theorem dX8_off_1 : decode cX8_off 1 = .ok (.invokestatic 179, 3) := by decide +kernel
theorem dX8_off_4 : decode cX8_off 4 = .ok (.ifCond .ne 6, 3) := by decide +kernel
theorem dX8_off_7 : decode cX8_off 7 = .ok (.bipush (-2), 2) := by decide +kernel
theorem dX8_off_9 : decode cX8_off 9 = .ok (.ireturn, 1) := by decide +kernel
theorem dX8_off_10 : decode cX8_off 10 = .ok (.aload_n 0, 1) := by decide +kernel
theorem dX8_off_11 : decode cX8_off 11 = .ok (.invokevirtual 222, 3) := by decide +kernel
theorem dX8_off_14 : decode cX8_off 14 = .ok (.iload_n 1, 1) := by decide +kernel
theorem dX8_off_15 : decode cX8_off 15 = .ok (.ifCond .ne 10, 3) := by decide +kernel
theorem dX8_off_18 : decode cX8_off 18 = .ok (.aload_n 0, 1) := by decide +kernel
theorem dX8_off_19 : decode cX8_off 19 = .ok (.getfield 207, 3) := by decide +kernel
theorem dX8_off_22 : decode cX8_off 22 = .ok (.goto 7, 3) := by decide +kernel
theorem dX8_off_25 : decode cX8_off 25 = .ok (.aload_n 0, 1) := by decide +kernel
theorem dX8_off_26 : decode cX8_off 26 = .ok (.getfield 210, 3) := by decide +kernel
theorem dX8_off_29 : decode cX8_off 29 = .ok (.ireturn, 1) := by decide +kernel
theorem dX8_row_0 : decode cX8_row 0 = .ok (.aload_n 0, 1) := by decide +kernel
theorem dX8_row_1 : decode cX8_row 1 = .ok (.iload_n 1, 1) := by decide +kernel
theorem dX8_row_2 : decode cX8_row 2 = .ok (.invokevirtual 176, 3) := by decide +kernel
theorem dX8_row_5 : decode cX8_row 5 = .ok (.ifCond .ne 6, 3) := by decide +kernel
theorem dX8_row_8 : decode cX8_row 8 = .ok (.bipush (-2), 2) := by decide +kernel
theorem dX8_row_10 : decode cX8_row 10 = .ok (.ireturn, 1) := by decide +kernel
theorem dX8_row_11 : decode cX8_row 11 = .ok (.aload_n 0, 1) := by decide +kernel
theorem dX8_row_12 : decode cX8_row 12 = .ok (.invokevirtual 222, 3) := by decide +kernel
theorem dX8_row_15 : decode cX8_row 15 = .ok (.aload_n 0, 1) := by decide +kernel
theorem dX8_row_16 : decode cX8_row 16 = .ok (.getfield 55, 3) := by decide +kernel
theorem dX8_row_19 : decode cX8_row 19 = .ok (.iload_n 1, 1) := by decide +kernel
theorem dX8_row_20 : decode cX8_row 20 = .ok (.iaload, 1) := by decide +kernel
theorem dX8_row_21 : decode cX8_row 21 = .ok (.ireturn, 1) := by decide +kernel
theorem dX8_stepOf_0 : decode cX8_stepOf 0 = .ok (.iconst 0, 1) := by decide +kernel
theorem dX8_stepOf_1 : decode cX8_stepOf 1 = .ok (.istore_n 3, 1) := by decide +kernel
theorem dX8_stepOf_2 : decode cX8_stepOf 2 = .ok (.iconst 0, 1) := by decide +kernel
theorem dX8_stepOf_3 : decode cX8_stepOf 3 = .ok (.istore 4, 2) := by decide +kernel
theorem dX8_stepOf_5 : decode cX8_stepOf 5 = .ok (.aload_n 0, 1) := by decide +kernel
theorem dX8_stepOf_6 : decode cX8_stepOf 6 = .ok (.iload_n 1, 1) := by decide +kernel
theorem dX8_stepOf_7 : decode cX8_stepOf 7 = .ok (.iconst 0, 1) := by decide +kernel
theorem dX8_stepOf_8 : decode cX8_stepOf 8 = .ok (.invokevirtual 197, 3) := by decide +kernel
theorem dX8_stepOf_11 : decode cX8_stepOf 11 = .ok (.istore 5, 2) := by decide +kernel
theorem dX8_stepOf_13 : decode cX8_stepOf 13 = .ok (.iconst 0, 1) := by decide +kernel
theorem dX8_stepOf_14 : decode cX8_stepOf 14 = .ok (.istore 6, 2) := by decide +kernel
theorem dX8_stepOf_16 : decode cX8_stepOf 16 = .ok (.iload 6, 2) := by decide +kernel
theorem dX8_stepOf_18 : decode cX8_stepOf 18 = .ok (.aload_n 0, 1) := by decide +kernel
theorem dX8_stepOf_19 : decode cX8_stepOf 19 = .ok (.invokevirtual 111, 3) := by decide +kernel
theorem dX8_stepOf_22 : decode cX8_stepOf 22 = .ok (.if_icmp .ge 63, 3) := by decide +kernel
theorem dX8_stepOf_25 : decode cX8_stepOf 25 = .ok (.iload_n 3, 1) := by decide +kernel
theorem dX8_stepOf_26 : decode cX8_stepOf 26 = .ok (.iconst 1, 1) := by decide +kernel
theorem dX8_stepOf_27 : decode cX8_stepOf 27 = .ok (.aload_n 0, 1) := by decide +kernel
theorem dX8_stepOf_28 : decode cX8_stepOf 28 = .ok (.getfield 55, 3) := by decide +kernel
theorem dX8_stepOf_31 : decode cX8_stepOf 31 = .ok (.iload 6, 2) := by decide +kernel
theorem dX8_stepOf_33 : decode cX8_stepOf 33 = .ok (.iaload, 1) := by decide +kernel
theorem dX8_stepOf_34 : decode cX8_stepOf 34 = .ok (.ishl, 1) := by decide +kernel
theorem dX8_stepOf_35 : decode cX8_stepOf 35 = .ok (.ior, 1) := by decide +kernel
theorem dX8_stepOf_36 : decode cX8_stepOf 36 = .ok (.istore_n 3, 1) := by decide +kernel
theorem dX8_stepOf_37 : decode cX8_stepOf 37 = .ok (.aload_n 0, 1) := by decide +kernel
theorem dX8_stepOf_38 : decode cX8_stepOf 38 = .ok (.iload_n 1, 1) := by decide +kernel
theorem dX8_stepOf_39 : decode cX8_stepOf 39 = .ok (.iload_n 3, 1) := by decide +kernel
theorem dX8_stepOf_40 : decode cX8_stepOf 40 = .ok (.invokevirtual 197, 3) := by decide +kernel
theorem dX8_stepOf_43 : decode cX8_stepOf 43 = .ok (.istore 7, 2) := by decide +kernel
theorem dX8_stepOf_45 : decode cX8_stepOf 45 = .ok (.iload 7, 2) := by decide +kernel
theorem dX8_stepOf_47 : decode cX8_stepOf 47 = .ok (.iload 5, 2) := by decide +kernel
theorem dX8_stepOf_49 : decode cX8_stepOf 49 = .ok (.if_icmp .ge 10, 3) := by decide +kernel
theorem dX8_stepOf_52 : decode cX8_stepOf 52 = .ok (.iload 6, 2) := by decide +kernel
theorem dX8_stepOf_54 : decode cX8_stepOf 54 = .ok (.iconst 1, 1) := by decide +kernel
theorem dX8_stepOf_55 : decode cX8_stepOf 55 = .ok (.iadd, 1) := by decide +kernel
theorem dX8_stepOf_56 : decode cX8_stepOf 56 = .ok (.goto 5, 3) := by decide +kernel
theorem dX8_stepOf_59 : decode cX8_stepOf 59 = .ok (.iload 4, 2) := by decide +kernel
theorem dX8_stepOf_61 : decode cX8_stepOf 61 = .ok (.istore 4, 2) := by decide +kernel
theorem dX8_stepOf_63 : decode cX8_stepOf 63 = .ok (.iload 7, 2) := by decide +kernel
theorem dX8_stepOf_65 : decode cX8_stepOf 65 = .ok (.iload 5, 2) := by decide +kernel
theorem dX8_stepOf_67 : decode cX8_stepOf 67 = .ok (.if_icmp .ge 8, 3) := by decide +kernel
theorem dX8_stepOf_70 : decode cX8_stepOf 70 = .ok (.iload 7, 2) := by decide +kernel
theorem dX8_stepOf_72 : decode cX8_stepOf 72 = .ok (.goto 5, 3) := by decide +kernel
theorem dX8_stepOf_75 : decode cX8_stepOf 75 = .ok (.iload 5, 2) := by decide +kernel
theorem dX8_stepOf_77 : decode cX8_stepOf 77 = .ok (.istore 5, 2) := by decide +kernel
theorem dX8_stepOf_79 : decode cX8_stepOf 79 = .ok (.iinc 6 1, 3) := by decide +kernel
theorem dX8_stepOf_82 : decode cX8_stepOf 82 = .ok (.goto (-66), 3) := by decide +kernel
theorem dX8_stepOf_85 : decode cX8_stepOf 85 = .ok (.iload_n 2, 1) := by decide +kernel
theorem dX8_stepOf_86 : decode cX8_stepOf 86 = .ok (.ifCond .ne 8, 3) := by decide +kernel
theorem dX8_stepOf_89 : decode cX8_stepOf 89 = .ok (.iload 4, 2) := by decide +kernel
theorem dX8_stepOf_91 : decode cX8_stepOf 91 = .ok (.goto 5, 3) := by decide +kernel
theorem dX8_stepOf_94 : decode cX8_stepOf 94 = .ok (.iload 5, 2) := by decide +kernel
theorem dX8_stepOf_96 : decode cX8_stepOf 96 = .ok (.ireturn, 1) := by decide +kernel
theorem dX8_step_0 : decode cX8_step 0 = .ok (.iload_n 1, 1) := by decide +kernel
theorem dX8_step_1 : decode cX8_step 1 = .ok (.invokestatic 123, 3) := by decide +kernel
theorem dX8_step_4 : decode cX8_step 4 = .ok (.ifCond .eq 10, 3) := by decide +kernel
theorem dX8_step_7 : decode cX8_step 7 = .ok (.iload_n 2, 1) := by decide +kernel
theorem dX8_step_8 : decode cX8_step 8 = .ok (.invokestatic 179, 3) := by decide +kernel
theorem dX8_step_11 : decode cX8_step 11 = .ok (.ifCond .ne 6, 3) := by decide +kernel
theorem dX8_step_14 : decode cX8_step 14 = .ok (.bipush (-2), 2) := by decide +kernel
theorem dX8_step_16 : decode cX8_step 16 = .ok (.ireturn, 1) := by decide +kernel
theorem dX8_step_17 : decode cX8_step 17 = .ok (.aload_n 0, 1) := by decide +kernel
theorem dX8_step_18 : decode cX8_step 18 = .ok (.invokevirtual 222, 3) := by decide +kernel
theorem dX8_step_21 : decode cX8_step 21 = .ok (.aload_n 0, 1) := by decide +kernel
theorem dX8_step_22 : decode cX8_step 22 = .ok (.iload_n 1, 1) := by decide +kernel
theorem dX8_step_23 : decode cX8_step 23 = .ok (.iload_n 2, 1) := by decide +kernel
theorem dX8_step_24 : decode cX8_step 24 = .ok (.invokevirtual 225, 3) := by decide +kernel
theorem dX8_step_27 : decode cX8_step 27 = .ok (.ireturn, 1) := by decide +kernel
theorem dX8_offBy_0 : decode cX8_offBy 0 = .ok (.iload_n 1, 1) := by decide +kernel
theorem dX8_offBy_1 : decode cX8_offBy 1 = .ok (.invokestatic 88, 3) := by decide +kernel
theorem dX8_offBy_4 : decode cX8_offBy 4 = .ok (.ifCond .ne 6, 3) := by decide +kernel
theorem dX8_offBy_7 : decode cX8_offBy 7 = .ok (.bipush (-2), 2) := by decide +kernel
theorem dX8_offBy_9 : decode cX8_offBy 9 = .ok (.ireturn, 1) := by decide +kernel
theorem dX8_offBy_10 : decode cX8_offBy 10 = .ok (.aload_n 0, 1) := by decide +kernel
theorem dX8_offBy_11 : decode cX8_offBy 11 = .ok (.getfield 7, 3) := by decide +kernel
theorem dX8_offBy_14 : decode cX8_offBy 14 = .ok (.iload_n 1, 1) := by decide +kernel
theorem dX8_offBy_15 : decode cX8_offBy 15 = .ok (.iaload, 1) := by decide +kernel
theorem dX8_offBy_16 : decode cX8_offBy 16 = .ok (.ifCond .ge 9, 3) := by decide +kernel
theorem dX8_offBy_19 : decode cX8_offBy 19 = .ok (.aload_n 0, 1) := by decide +kernel
theorem dX8_offBy_20 : decode cX8_offBy 20 = .ok (.iconst 1, 1) := by decide +kernel
theorem dX8_offBy_21 : decode cX8_offBy 21 = .ok (.invokevirtual 94, 3) := by decide +kernel
theorem dX8_offBy_24 : decode cX8_offBy 24 = .ok (.ireturn, 1) := by decide +kernel
theorem dX8_offBy_25 : decode cX8_offBy 25 = .ok (.iconst 0, 1) := by decide +kernel
theorem dX8_offBy_26 : decode cX8_offBy 26 = .ok (.istore_n 2, 1) := by decide +kernel
theorem dX8_offBy_27 : decode cX8_offBy 27 = .ok (.iconst 0, 1) := by decide +kernel
theorem dX8_offBy_28 : decode cX8_offBy 28 = .ok (.istore_n 3, 1) := by decide +kernel
theorem dX8_offBy_29 : decode cX8_offBy 29 = .ok (.iload_n 3, 1) := by decide +kernel
theorem dX8_offBy_30 : decode cX8_offBy 30 = .ok (.aload_n 0, 1) := by decide +kernel
theorem dX8_offBy_31 : decode cX8_offBy 31 = .ok (.invokevirtual 111, 3) := by decide +kernel
theorem dX8_offBy_34 : decode cX8_offBy 34 = .ok (.if_icmp .ge 68, 3) := by decide +kernel
theorem dX8_offBy_37 : decode cX8_offBy 37 = .ok (.iload_n 3, 1) := by decide +kernel
theorem dX8_offBy_38 : decode cX8_offBy 38 = .ok (.aload_n 0, 1) := by decide +kernel
theorem dX8_offBy_39 : decode cX8_offBy 39 = .ok (.getfield 13, 3) := by decide +kernel
theorem dX8_offBy_42 : decode cX8_offBy 42 = .ok (.iload_n 1, 1) := by decide +kernel
theorem dX8_offBy_43 : decode cX8_offBy 43 = .ok (.iaload, 1) := by decide +kernel
theorem dX8_offBy_44 : decode cX8_offBy 44 = .ok (.if_icmp .ge 21, 3) := by decide +kernel
theorem dX8_offBy_47 : decode cX8_offBy 47 = .ok (.aload_n 0, 1) := by decide +kernel
theorem dX8_offBy_48 : decode cX8_offBy 48 = .ok (.aload_n 0, 1) := by decide +kernel
theorem dX8_offBy_49 : decode cX8_offBy 49 = .ok (.getfield 16, 3) := by decide +kernel
theorem dX8_offBy_52 : decode cX8_offBy 52 = .ok (.bipush 60, 2) := by decide +kernel
theorem dX8_offBy_54 : decode cX8_offBy 54 = .ok (.iload_n 1, 1) := by decide +kernel
theorem dX8_offBy_55 : decode cX8_offBy 55 = .ok (.imul, 1) := by decide +kernel
theorem dX8_offBy_56 : decode cX8_offBy 56 = .ok (.iload_n 3, 1) := by decide +kernel
theorem dX8_offBy_57 : decode cX8_offBy 57 = .ok (.iadd, 1) := by decide +kernel
theorem dX8_offBy_58 : decode cX8_offBy 58 = .ok (.iaload, 1) := by decide +kernel
theorem dX8_offBy_59 : decode cX8_offBy 59 = .ok (.invokevirtual 176, 3) := by decide +kernel
theorem dX8_offBy_62 : decode cX8_offBy 62 = .ok (.ifCond .ne 6, 3) := by decide +kernel
theorem dX8_offBy_65 : decode cX8_offBy 65 = .ok (.bipush (-3), 2) := by decide +kernel
theorem dX8_offBy_67 : decode cX8_offBy 67 = .ok (.ireturn, 1) := by decide +kernel
theorem dX8_offBy_68 : decode cX8_offBy 68 = .ok (.aload_n 0, 1) := by decide +kernel
theorem dX8_offBy_69 : decode cX8_offBy 69 = .ok (.getfield 52, 3) := by decide +kernel
theorem dX8_offBy_72 : decode cX8_offBy 72 = .ok (.iload_n 3, 1) := by decide +kernel
theorem dX8_offBy_73 : decode cX8_offBy 73 = .ok (.aload_n 0, 1) := by decide +kernel
theorem dX8_offBy_74 : decode cX8_offBy 74 = .ok (.getfield 16, 3) := by decide +kernel
theorem dX8_offBy_77 : decode cX8_offBy 77 = .ok (.bipush 60, 2) := by decide +kernel
theorem dX8_offBy_79 : decode cX8_offBy 79 = .ok (.iload_n 1, 1) := by decide +kernel
theorem dX8_offBy_80 : decode cX8_offBy 80 = .ok (.imul, 1) := by decide +kernel
theorem dX8_offBy_81 : decode cX8_offBy 81 = .ok (.iload_n 3, 1) := by decide +kernel
theorem dX8_offBy_82 : decode cX8_offBy 82 = .ok (.iadd, 1) := by decide +kernel
theorem dX8_offBy_83 : decode cX8_offBy 83 = .ok (.iaload, 1) := by decide +kernel
theorem dX8_offBy_84 : decode cX8_offBy 84 = .ok (.iastore, 1) := by decide +kernel
theorem dX8_offBy_85 : decode cX8_offBy 85 = .ok (.iload_n 2, 1) := by decide +kernel
theorem dX8_offBy_86 : decode cX8_offBy 86 = .ok (.iconst 1, 1) := by decide +kernel
theorem dX8_offBy_87 : decode cX8_offBy 87 = .ok (.aload_n 0, 1) := by decide +kernel
theorem dX8_offBy_88 : decode cX8_offBy 88 = .ok (.getfield 52, 3) := by decide +kernel
theorem dX8_offBy_91 : decode cX8_offBy 91 = .ok (.iload_n 3, 1) := by decide +kernel
theorem dX8_offBy_92 : decode cX8_offBy 92 = .ok (.iaload, 1) := by decide +kernel
theorem dX8_offBy_93 : decode cX8_offBy 93 = .ok (.ishl, 1) := by decide +kernel
theorem dX8_offBy_94 : decode cX8_offBy 94 = .ok (.ior, 1) := by decide +kernel
theorem dX8_offBy_95 : decode cX8_offBy 95 = .ok (.istore_n 2, 1) := by decide +kernel
theorem dX8_offBy_96 : decode cX8_offBy 96 = .ok (.iinc 3 1, 3) := by decide +kernel
theorem dX8_offBy_99 : decode cX8_offBy 99 = .ok (.goto (-70), 3) := by decide +kernel
theorem dX8_offBy_102 : decode cX8_offBy 102 = .ok (.iload_n 2, 1) := by decide +kernel
theorem dX8_offBy_103 : decode cX8_offBy 103 = .ok (.aload_n 0, 1) := by decide +kernel
theorem dX8_offBy_104 : decode cX8_offBy 104 = .ok (.invokevirtual 228, 3) := by decide +kernel
theorem dX8_offBy_107 : decode cX8_offBy 107 = .ok (.if_icmp .eq 6, 3) := by decide +kernel
theorem dX8_offBy_110 : decode cX8_offBy 110 = .ok (.bipush (-3), 2) := by decide +kernel
theorem dX8_offBy_112 : decode cX8_offBy 112 = .ok (.ireturn, 1) := by decide +kernel
theorem dX8_offBy_113 : decode cX8_offBy 113 = .ok (.aload_n 0, 1) := by decide +kernel
theorem dX8_offBy_114 : decode cX8_offBy 114 = .ok (.invokevirtual 136, 3) := by decide +kernel
theorem dX8_offBy_117 : decode cX8_offBy 117 = .ok (.aload_n 0, 1) := by decide +kernel
theorem dX8_offBy_118 : decode cX8_offBy 118 = .ok (.iconst (-1), 1) := by decide +kernel
theorem dX8_offBy_119 : decode cX8_offBy 119 = .ok (.iconst (-1), 1) := by decide +kernel
theorem dX8_offBy_120 : decode cX8_offBy 120 = .ok (.invokevirtual 204, 3) := by decide +kernel
theorem dX8_offBy_123 : decode cX8_offBy 123 = .ok (.aload_n 0, 1) := by decide +kernel
theorem dX8_offBy_124 : decode cX8_offBy 124 = .ok (.aload_n 0, 1) := by decide +kernel
theorem dX8_offBy_125 : decode cX8_offBy 125 = .ok (.invokevirtual 111, 3) := by decide +kernel
theorem dX8_offBy_128 : decode cX8_offBy 128 = .ok (.invokevirtual 213, 3) := by decide +kernel
theorem dX8_offBy_131 : decode cX8_offBy 131 = .ok (.ireturn, 1) := by decide +kernel
theorem dX8_allAnswers_0 : decode cX8_allAnswers 0 = .ok (.iconst 0, 1) := by decide +kernel
theorem dX8_allAnswers_1 : decode cX8_allAnswers 1 = .ok (.istore_n 2, 1) := by decide +kernel
theorem dX8_allAnswers_2 : decode cX8_allAnswers 2 = .ok (.iconst 0, 1) := by decide +kernel
theorem dX8_allAnswers_3 : decode cX8_allAnswers 3 = .ok (.istore_n 3, 1) := by decide +kernel
theorem dX8_allAnswers_4 : decode cX8_allAnswers 4 = .ok (.iload_n 3, 1) := by decide +kernel
theorem dX8_allAnswers_5 : decode cX8_allAnswers 5 = .ok (.bipush 12, 2) := by decide +kernel
theorem dX8_allAnswers_7 : decode cX8_allAnswers 7 = .ok (.if_icmp .ge 21, 3) := by decide +kernel
theorem dX8_allAnswers_10 : decode cX8_allAnswers 10 = .ok (.iload_n 2, 1) := by decide +kernel
theorem dX8_allAnswers_11 : decode cX8_allAnswers 11 = .ok (.aload_n 0, 1) := by decide +kernel
theorem dX8_allAnswers_12 : decode cX8_allAnswers 12 = .ok (.iload_n 3, 1) := by decide +kernel
theorem dX8_allAnswers_13 : decode cX8_allAnswers 13 = .ok (.iload_n 1, 1) := by decide +kernel
theorem dX8_allAnswers_14 : decode cX8_allAnswers 14 = .ok (.invokevirtual 189, 3) := by decide +kernel
theorem dX8_allAnswers_17 : decode cX8_allAnswers 17 = .ok (.invokestatic 192, 3) := by decide +kernel
theorem dX8_allAnswers_20 : decode cX8_allAnswers 20 = .ok (.iadd, 1) := by decide +kernel
theorem dX8_allAnswers_21 : decode cX8_allAnswers 21 = .ok (.istore_n 2, 1) := by decide +kernel
theorem dX8_allAnswers_22 : decode cX8_allAnswers 22 = .ok (.iinc 3 1, 3) := by decide +kernel
theorem dX8_allAnswers_25 : decode cX8_allAnswers 25 = .ok (.goto (-21), 3) := by decide +kernel
theorem dX8_allAnswers_28 : decode cX8_allAnswers 28 = .ok (.iload_n 2, 1) := by decide +kernel
theorem dX8_allAnswers_29 : decode cX8_allAnswers 29 = .ok (.ireturn, 1) := by decide +kernel
theorem dX8_shares_0 : decode cX8_shares 0 = .ok (.iconst 0, 1) := by decide +kernel
theorem dX8_shares_1 : decode cX8_shares 1 = .ok (.istore_n 1, 1) := by decide +kernel
theorem dX8_shares_2 : decode cX8_shares 2 = .ok (.iconst 0, 1) := by decide +kernel
theorem dX8_shares_3 : decode cX8_shares 3 = .ok (.istore_n 2, 1) := by decide +kernel
theorem dX8_shares_4 : decode cX8_shares 4 = .ok (.iload_n 2, 1) := by decide +kernel
theorem dX8_shares_5 : decode cX8_shares 5 = .ok (.aload_n 0, 1) := by decide +kernel
theorem dX8_shares_6 : decode cX8_shares 6 = .ok (.invokevirtual 111, 3) := by decide +kernel
theorem dX8_shares_9 : decode cX8_shares 9 = .ok (.if_icmp .ge 94, 3) := by decide +kernel
theorem dX8_shares_12 : decode cX8_shares 12 = .ok (.iconst 0, 1) := by decide +kernel
theorem dX8_shares_13 : decode cX8_shares 13 = .ok (.istore_n 3, 1) := by decide +kernel
theorem dX8_shares_14 : decode cX8_shares 14 = .ok (.iconst 0, 1) := by decide +kernel
theorem dX8_shares_15 : decode cX8_shares 15 = .ok (.istore 4, 2) := by decide +kernel
theorem dX8_shares_17 : decode cX8_shares 17 = .ok (.iconst 0, 1) := by decide +kernel
theorem dX8_shares_18 : decode cX8_shares 18 = .ok (.istore 5, 2) := by decide +kernel
theorem dX8_shares_20 : decode cX8_shares 20 = .ok (.iload 5, 2) := by decide +kernel
theorem dX8_shares_22 : decode cX8_shares 22 = .ok (.bipush 12, 2) := by decide +kernel
theorem dX8_shares_24 : decode cX8_shares 24 = .ok (.if_icmp .ge 58, 3) := by decide +kernel
theorem dX8_shares_27 : decode cX8_shares 27 = .ok (.iload_n 3, 1) := by decide +kernel
theorem dX8_shares_28 : decode cX8_shares 28 = .ok (.aload_n 0, 1) := by decide +kernel
theorem dX8_shares_29 : decode cX8_shares 29 = .ok (.getfield 37, 3) := by decide +kernel
theorem dX8_shares_32 : decode cX8_shares 32 = .ok (.bipush 7, 2) := by decide +kernel
theorem dX8_shares_34 : decode cX8_shares 34 = .ok (.iload 5, 2) := by decide +kernel
theorem dX8_shares_36 : decode cX8_shares 36 = .ok (.imul, 1) := by decide +kernel
theorem dX8_shares_37 : decode cX8_shares 37 = .ok (.iload_n 2, 1) := by decide +kernel
theorem dX8_shares_38 : decode cX8_shares 38 = .ok (.iadd, 1) := by decide +kernel
theorem dX8_shares_39 : decode cX8_shares 39 = .ok (.iaload, 1) := by decide +kernel
theorem dX8_shares_40 : decode cX8_shares 40 = .ok (.iconst 1, 1) := by decide +kernel
theorem dX8_shares_41 : decode cX8_shares 41 = .ok (.if_icmp .ne 7, 3) := by decide +kernel
theorem dX8_shares_44 : decode cX8_shares 44 = .ok (.iconst 1, 1) := by decide +kernel
theorem dX8_shares_45 : decode cX8_shares 45 = .ok (.goto 4, 3) := by decide +kernel
theorem dX8_shares_48 : decode cX8_shares 48 = .ok (.iconst 0, 1) := by decide +kernel
theorem dX8_shares_49 : decode cX8_shares 49 = .ok (.iadd, 1) := by decide +kernel
theorem dX8_shares_50 : decode cX8_shares 50 = .ok (.istore_n 3, 1) := by decide +kernel
theorem dX8_shares_51 : decode cX8_shares 51 = .ok (.iload 4, 2) := by decide +kernel
theorem dX8_shares_53 : decode cX8_shares 53 = .ok (.aload_n 0, 1) := by decide +kernel
theorem dX8_shares_54 : decode cX8_shares 54 = .ok (.getfield 37, 3) := by decide +kernel
theorem dX8_shares_57 : decode cX8_shares 57 = .ok (.bipush 7, 2) := by decide +kernel
theorem dX8_shares_59 : decode cX8_shares 59 = .ok (.iload 5, 2) := by decide +kernel
theorem dX8_shares_61 : decode cX8_shares 61 = .ok (.imul, 1) := by decide +kernel
theorem dX8_shares_62 : decode cX8_shares 62 = .ok (.iload_n 2, 1) := by decide +kernel
theorem dX8_shares_63 : decode cX8_shares 63 = .ok (.iadd, 1) := by decide +kernel
theorem dX8_shares_64 : decode cX8_shares 64 = .ok (.iaload, 1) := by decide +kernel
theorem dX8_shares_65 : decode cX8_shares 65 = .ok (.ifCond .ne 7, 3) := by decide +kernel
theorem dX8_shares_68 : decode cX8_shares 68 = .ok (.iconst 1, 1) := by decide +kernel
theorem dX8_shares_69 : decode cX8_shares 69 = .ok (.goto 4, 3) := by decide +kernel
theorem dX8_shares_72 : decode cX8_shares 72 = .ok (.iconst 0, 1) := by decide +kernel
theorem dX8_shares_73 : decode cX8_shares 73 = .ok (.iadd, 1) := by decide +kernel
theorem dX8_shares_74 : decode cX8_shares 74 = .ok (.istore 4, 2) := by decide +kernel
theorem dX8_shares_76 : decode cX8_shares 76 = .ok (.iinc 5 1, 3) := by decide +kernel
theorem dX8_shares_79 : decode cX8_shares 79 = .ok (.goto (-59), 3) := by decide +kernel
theorem dX8_shares_82 : decode cX8_shares 82 = .ok (.iload_n 1, 1) := by decide +kernel
theorem dX8_shares_83 : decode cX8_shares 83 = .ok (.iload_n 3, 1) := by decide +kernel
theorem dX8_shares_84 : decode cX8_shares 84 = .ok (.iload 4, 2) := by decide +kernel
theorem dX8_shares_86 : decode cX8_shares 86 = .ok (.if_icmp .le 7, 3) := by decide +kernel
theorem dX8_shares_89 : decode cX8_shares 89 = .ok (.iload_n 3, 1) := by decide +kernel
theorem dX8_shares_90 : decode cX8_shares 90 = .ok (.goto 5, 3) := by decide +kernel
theorem dX8_shares_93 : decode cX8_shares 93 = .ok (.iload 4, 2) := by decide +kernel
theorem dX8_shares_95 : decode cX8_shares 95 = .ok (.iadd, 1) := by decide +kernel
theorem dX8_shares_96 : decode cX8_shares 96 = .ok (.istore_n 1, 1) := by decide +kernel
theorem dX8_shares_97 : decode cX8_shares 97 = .ok (.iinc 2 1, 3) := by decide +kernel
theorem dX8_shares_100 : decode cX8_shares 100 = .ok (.goto (-96), 3) := by decide +kernel
theorem dX8_shares_103 : decode cX8_shares 103 = .ok (.iload_n 1, 1) := by decide +kernel
theorem dX8_shares_104 : decode cX8_shares 104 = .ok (.ireturn, 1) := by decide +kernel
theorem dX8_part_0 : decode cX8_part 0 = .ok (.lload_n 0, 1) := by decide +kernel
theorem dX8_part_1 : decode cX8_part 1 = .ok (.lstore 5, 2) := by decide +kernel
theorem dX8_part_3 : decode cX8_part 3 = .ok (.lload_n 2, 1) := by decide +kernel
theorem dX8_part_4 : decode cX8_part 4 = .ok (.lstore 7, 2) := by decide +kernel
theorem dX8_part_6 : decode cX8_part 6 = .ok (.lload 7, 2) := by decide +kernel
theorem dX8_part_8 : decode cX8_part 8 = .ok (.lconst 0, 1) := by decide +kernel
theorem dX8_part_9 : decode cX8_part 9 = .ok (.lcmp, 1) := by decide +kernel
theorem dX8_part_10 : decode cX8_part 10 = .ok (.ifCond .eq 21, 3) := by decide +kernel
theorem dX8_part_13 : decode cX8_part 13 = .ok (.lload 5, 2) := by decide +kernel
theorem dX8_part_15 : decode cX8_part 15 = .ok (.lload 7, 2) := by decide +kernel
theorem dX8_part_17 : decode cX8_part 17 = .ok (.lrem, 1) := by decide +kernel
theorem dX8_part_18 : decode cX8_part 18 = .ok (.lstore 9, 2) := by decide +kernel
theorem dX8_part_20 : decode cX8_part 20 = .ok (.lload 7, 2) := by decide +kernel
theorem dX8_part_22 : decode cX8_part 22 = .ok (.lstore 5, 2) := by decide +kernel
theorem dX8_part_24 : decode cX8_part 24 = .ok (.lload 9, 2) := by decide +kernel
theorem dX8_part_26 : decode cX8_part 26 = .ok (.lstore 7, 2) := by decide +kernel
theorem dX8_part_28 : decode cX8_part 28 = .ok (.goto (-22), 3) := by decide +kernel
theorem dX8_part_31 : decode cX8_part 31 = .ok (.iload 4, 2) := by decide +kernel
theorem dX8_part_33 : decode cX8_part 33 = .ok (.ifCond .ne 7, 3) := by decide +kernel
theorem dX8_part_36 : decode cX8_part 36 = .ok (.lload_n 0, 1) := by decide +kernel
theorem dX8_part_37 : decode cX8_part 37 = .ok (.goto 4, 3) := by decide +kernel
theorem dX8_part_40 : decode cX8_part 40 = .ok (.lload_n 2, 1) := by decide +kernel
theorem dX8_part_41 : decode cX8_part 41 = .ok (.lload 5, 2) := by decide +kernel
theorem dX8_part_43 : decode cX8_part 43 = .ok (.ldiv, 1) := by decide +kernel
theorem dX8_part_44 : decode cX8_part 44 = .ok (.lreturn, 1) := by decide +kernel
theorem dX8_fitOf_0 : decode cX8_fitOf 0 = .ok (.aload_n 0, 1) := by decide +kernel
theorem dX8_fitOf_1 : decode cX8_fitOf 1 = .ok (.invokevirtual 222, 3) := by decide +kernel
theorem dX8_fitOf_4 : decode cX8_fitOf 4 = .ok (.aload_n 0, 1) := by decide +kernel
theorem dX8_fitOf_5 : decode cX8_fitOf 5 = .ok (.iconst 0, 1) := by decide +kernel
theorem dX8_fitOf_6 : decode cX8_fitOf 6 = .ok (.invokevirtual 231, 3) := by decide +kernel
theorem dX8_fitOf_9 : decode cX8_fitOf 9 = .ok (.aload_n 0, 1) := by decide +kernel
theorem dX8_fitOf_10 : decode cX8_fitOf 10 = .ok (.iconst 1, 1) := by decide +kernel
theorem dX8_fitOf_11 : decode cX8_fitOf 11 = .ok (.invokevirtual 231, 3) := by decide +kernel
theorem dX8_fitOf_14 : decode cX8_fitOf 14 = .ok (.iadd, 1) := by decide +kernel
theorem dX8_fitOf_15 : decode cX8_fitOf 15 = .ok (.istore_n 3, 1) := by decide +kernel
theorem dX8_fitOf_16 : decode cX8_fitOf 16 = .ok (.iload_n 3, 1) := by decide +kernel
theorem dX8_fitOf_17 : decode cX8_fitOf 17 = .ok (.ifCond .ne 11, 3) := by decide +kernel
theorem dX8_fitOf_20 : decode cX8_fitOf 20 = .ok (.bipush (-3), 2) := by decide +kernel
theorem dX8_fitOf_22 : decode cX8_fitOf 22 = .ok (.invokestatic 234, 3) := by decide +kernel
theorem dX8_fitOf_25 : decode cX8_fitOf 25 = .ok (.goto 28, 3) := by decide +kernel
theorem dX8_fitOf_28 : decode cX8_fitOf 28 = .ok (.iload_n 1, 1) := by decide +kernel
theorem dX8_fitOf_29 : decode cX8_fitOf 29 = .ok (.ifCond .ne 13, 3) := by decide +kernel
theorem dX8_fitOf_32 : decode cX8_fitOf 32 = .ok (.iload_n 3, 1) := by decide +kernel
theorem dX8_fitOf_33 : decode cX8_fitOf 33 = .ok (.aload_n 0, 1) := by decide +kernel
theorem dX8_fitOf_34 : decode cX8_fitOf 34 = .ok (.getfield 207, 3) := by decide +kernel
theorem dX8_fitOf_37 : decode cX8_fitOf 37 = .ok (.isub, 1) := by decide +kernel
theorem dX8_fitOf_38 : decode cX8_fitOf 38 = .ok (.i2l, 1) := by decide +kernel
theorem dX8_fitOf_39 : decode cX8_fitOf 39 = .ok (.goto 8, 3) := by decide +kernel
theorem dX8_fitOf_42 : decode cX8_fitOf 42 = .ok (.aload_n 0, 1) := by decide +kernel
theorem dX8_fitOf_43 : decode cX8_fitOf 43 = .ok (.invokevirtual 238, 3) := by decide +kernel
theorem dX8_fitOf_46 : decode cX8_fitOf 46 = .ok (.i2l, 1) := by decide +kernel
theorem dX8_fitOf_47 : decode cX8_fitOf 47 = .ok (.iload_n 3, 1) := by decide +kernel
theorem dX8_fitOf_48 : decode cX8_fitOf 48 = .ok (.i2l, 1) := by decide +kernel
theorem dX8_fitOf_49 : decode cX8_fitOf 49 = .ok (.iload_n 2, 1) := by decide +kernel
theorem dX8_fitOf_50 : decode cX8_fitOf 50 = .ok (.invokestatic 241, 3) := by decide +kernel
theorem dX8_fitOf_53 : decode cX8_fitOf 53 = .ok (.lreturn, 1) := by decide +kernel
theorem dX8_fit_0 : decode cX8_fit 0 = .ok (.iload_n 1, 1) := by decide +kernel
theorem dX8_fit_1 : decode cX8_fit 1 = .ok (.invokestatic 179, 3) := by decide +kernel
theorem dX8_fit_4 : decode cX8_fit 4 = .ok (.ifCond .eq 19, 3) := by decide +kernel
theorem dX8_fit_7 : decode cX8_fit 7 = .ok (.iload_n 2, 1) := by decide +kernel
theorem dX8_fit_8 : decode cX8_fit 8 = .ok (.invokestatic 179, 3) := by decide +kernel
theorem dX8_fit_11 : decode cX8_fit 11 = .ok (.ifCond .eq 12, 3) := by decide +kernel
theorem dX8_fit_14 : decode cX8_fit 14 = .ok (.aload_n 0, 1) := by decide +kernel
theorem dX8_fit_15 : decode cX8_fit 15 = .ok (.iload_n 1, 1) := by decide +kernel
theorem dX8_fit_16 : decode cX8_fit 16 = .ok (.iload_n 2, 1) := by decide +kernel
theorem dX8_fit_17 : decode cX8_fit 17 = .ok (.invokevirtual 245, 3) := by decide +kernel
theorem dX8_fit_20 : decode cX8_fit 20 = .ok (.goto 8, 3) := by decide +kernel
theorem dX8_fit_23 : decode cX8_fit 23 = .ok (.bipush (-2), 2) := by decide +kernel
theorem dX8_fit_25 : decode cX8_fit 25 = .ok (.invokestatic 234, 3) := by decide +kernel
theorem dX8_fit_28 : decode cX8_fit 28 = .ok (.lreturn, 1) := by decide +kernel
theorem dX8_oddNow_0 : decode cX8_oddNow 0 = .ok (.aload_n 0, 1) := by decide +kernel
theorem dX8_oddNow_1 : decode cX8_oddNow 1 = .ok (.invokevirtual 222, 3) := by decide +kernel
theorem dX8_oddNow_4 : decode cX8_oddNow 4 = .ok (.iconst (-1), 1) := by decide +kernel
theorem dX8_oddNow_5 : decode cX8_oddNow 5 = .ok (.istore_n 1, 1) := by decide +kernel
theorem dX8_oddNow_6 : decode cX8_oddNow 6 = .ok (.iconst 0, 1) := by decide +kernel
theorem dX8_oddNow_7 : decode cX8_oddNow 7 = .ok (.istore_n 2, 1) := by decide +kernel
theorem dX8_oddNow_8 : decode cX8_oddNow 8 = .ok (.iconst 0, 1) := by decide +kernel
theorem dX8_oddNow_9 : decode cX8_oddNow 9 = .ok (.istore_n 3, 1) := by decide +kernel
theorem dX8_oddNow_10 : decode cX8_oddNow 10 = .ok (.iload_n 3, 1) := by decide +kernel
theorem dX8_oddNow_11 : decode cX8_oddNow 11 = .ok (.bipush 12, 2) := by decide +kernel
theorem dX8_oddNow_13 : decode cX8_oddNow 13 = .ok (.if_icmp .ge 42, 3) := by decide +kernel
theorem dX8_oddNow_16 : decode cX8_oddNow 16 = .ok (.aload_n 0, 1) := by decide +kernel
theorem dX8_oddNow_17 : decode cX8_oddNow 17 = .ok (.iload_n 3, 1) := by decide +kernel
theorem dX8_oddNow_18 : decode cX8_oddNow 18 = .ok (.iconst 1, 1) := by decide +kernel
theorem dX8_oddNow_19 : decode cX8_oddNow 19 = .ok (.invokevirtual 225, 3) := by decide +kernel
theorem dX8_oddNow_22 : decode cX8_oddNow 22 = .ok (.istore 4, 2) := by decide +kernel
theorem dX8_oddNow_24 : decode cX8_oddNow 24 = .ok (.iload 4, 2) := by decide +kernel
theorem dX8_oddNow_26 : decode cX8_oddNow 26 = .ok (.iload_n 2, 1) := by decide +kernel
theorem dX8_oddNow_27 : decode cX8_oddNow 27 = .ok (.if_icmp .le 7, 3) := by decide +kernel
theorem dX8_oddNow_30 : decode cX8_oddNow 30 = .ok (.iload_n 3, 1) := by decide +kernel
theorem dX8_oddNow_31 : decode cX8_oddNow 31 = .ok (.goto 4, 3) := by decide +kernel
theorem dX8_oddNow_34 : decode cX8_oddNow 34 = .ok (.iload_n 1, 1) := by decide +kernel
theorem dX8_oddNow_35 : decode cX8_oddNow 35 = .ok (.istore_n 1, 1) := by decide +kernel
theorem dX8_oddNow_36 : decode cX8_oddNow 36 = .ok (.iload 4, 2) := by decide +kernel
theorem dX8_oddNow_38 : decode cX8_oddNow 38 = .ok (.iload_n 2, 1) := by decide +kernel
theorem dX8_oddNow_39 : decode cX8_oddNow 39 = .ok (.if_icmp .le 8, 3) := by decide +kernel
theorem dX8_oddNow_42 : decode cX8_oddNow 42 = .ok (.iload 4, 2) := by decide +kernel
theorem dX8_oddNow_44 : decode cX8_oddNow 44 = .ok (.goto 4, 3) := by decide +kernel
theorem dX8_oddNow_47 : decode cX8_oddNow 47 = .ok (.iload_n 2, 1) := by decide +kernel
theorem dX8_oddNow_48 : decode cX8_oddNow 48 = .ok (.istore_n 2, 1) := by decide +kernel
theorem dX8_oddNow_49 : decode cX8_oddNow 49 = .ok (.iinc 3 1, 3) := by decide +kernel
theorem dX8_oddNow_52 : decode cX8_oddNow 52 = .ok (.goto (-42), 3) := by decide +kernel
theorem dX8_oddNow_55 : decode cX8_oddNow 55 = .ok (.iload_n 1, 1) := by decide +kernel
theorem dX8_oddNow_56 : decode cX8_oddNow 56 = .ok (.ireturn, 1) := by decide +kernel
theorem dX8_odd_0 : decode cX8_odd 0 = .ok (.aload_n 0, 1) := by decide +kernel
theorem dX8_odd_1 : decode cX8_odd 1 = .ok (.invokevirtual 249, 3) := by decide +kernel
theorem dX8_odd_4 : decode cX8_odd 4 = .ok (.ireturn, 1) := by decide +kernel
theorem dX8_withoutOf_0 : decode cX8_withoutOf 0 = .ok (.aload_n 0, 1) := by decide +kernel
theorem dX8_withoutOf_1 : decode cX8_withoutOf 1 = .ok (.invokevirtual 136, 3) := by decide +kernel
theorem dX8_withoutOf_4 : decode cX8_withoutOf 4 = .ok (.aload_n 0, 1) := by decide +kernel
theorem dX8_withoutOf_5 : decode cX8_withoutOf 5 = .ok (.iload_n 2, 1) := by decide +kernel
theorem dX8_withoutOf_6 : decode cX8_withoutOf 6 = .ok (.ifCond .ne 7, 3) := by decide +kernel
theorem dX8_withoutOf_9 : decode cX8_withoutOf 9 = .ok (.iload_n 1, 1) := by decide +kernel
theorem dX8_withoutOf_10 : decode cX8_withoutOf 10 = .ok (.goto 4, 3) := by decide +kernel
theorem dX8_withoutOf_13 : decode cX8_withoutOf 13 = .ok (.iconst (-1), 1) := by decide +kernel
theorem dX8_withoutOf_14 : decode cX8_withoutOf 14 = .ok (.iload_n 2, 1) := by decide +kernel
theorem dX8_withoutOf_15 : decode cX8_withoutOf 15 = .ok (.ifCond .ne 7, 3) := by decide +kernel
theorem dX8_withoutOf_18 : decode cX8_withoutOf 18 = .ok (.iconst (-1), 1) := by decide +kernel
theorem dX8_withoutOf_19 : decode cX8_withoutOf 19 = .ok (.goto 4, 3) := by decide +kernel
theorem dX8_withoutOf_22 : decode cX8_withoutOf 22 = .ok (.iload_n 1, 1) := by decide +kernel
theorem dX8_withoutOf_23 : decode cX8_withoutOf 23 = .ok (.invokevirtual 219, 3) := by decide +kernel
theorem dX8_withoutOf_26 : decode cX8_withoutOf 26 = .ok (.aload_n 0, 1) := by decide +kernel
theorem dX8_withoutOf_27 : decode cX8_withoutOf 27 = .ok (.getfield 207, 3) := by decide +kernel
theorem dX8_withoutOf_30 : decode cX8_withoutOf 30 = .ok (.ireturn, 1) := by decide +kernel
theorem dX8_without_0 : decode cX8_without 0 = .ok (.aload_n 0, 1) := by decide +kernel
theorem dX8_without_1 : decode cX8_without 1 = .ok (.iload_n 1, 1) := by decide +kernel
theorem dX8_without_2 : decode cX8_without 2 = .ok (.invokevirtual 176, 3) := by decide +kernel
theorem dX8_without_5 : decode cX8_without 5 = .ok (.ifCond .eq 19, 3) := by decide +kernel
theorem dX8_without_8 : decode cX8_without 8 = .ok (.iload_n 2, 1) := by decide +kernel
theorem dX8_without_9 : decode cX8_without 9 = .ok (.invokestatic 179, 3) := by decide +kernel
theorem dX8_without_12 : decode cX8_without 12 = .ok (.ifCond .eq 12, 3) := by decide +kernel
theorem dX8_without_15 : decode cX8_without 15 = .ok (.aload_n 0, 1) := by decide +kernel
theorem dX8_without_16 : decode cX8_without 16 = .ok (.iload_n 1, 1) := by decide +kernel
theorem dX8_without_17 : decode cX8_without 17 = .ok (.iload_n 2, 1) := by decide +kernel
theorem dX8_without_18 : decode cX8_without 18 = .ok (.invokevirtual 252, 3) := by decide +kernel
theorem dX8_without_21 : decode cX8_without 21 = .ok (.goto 5, 3) := by decide +kernel
theorem dX8_without_24 : decode cX8_without 24 = .ok (.bipush (-2), 2) := by decide +kernel
theorem dX8_without_26 : decode cX8_without 26 = .ok (.ireturn, 1) := by decide +kernel
theorem dX8_worstOf_0 : decode cX8_worstOf 0 = .ok (.iconst (-1), 1) := by decide +kernel
theorem dX8_worstOf_1 : decode cX8_worstOf 1 = .ok (.istore_n 2, 1) := by decide +kernel
theorem dX8_worstOf_2 : decode cX8_worstOf 2 = .ok (.sipush 10000, 3) := by decide +kernel
theorem dX8_worstOf_5 : decode cX8_worstOf 5 = .ok (.istore_n 3, 1) := by decide +kernel
theorem dX8_worstOf_6 : decode cX8_worstOf 6 = .ok (.iconst 0, 1) := by decide +kernel
theorem dX8_worstOf_7 : decode cX8_worstOf 7 = .ok (.istore 4, 2) := by decide +kernel
theorem dX8_worstOf_9 : decode cX8_worstOf 9 = .ok (.iload 4, 2) := by decide +kernel
theorem dX8_worstOf_11 : decode cX8_worstOf 11 = .ok (.aload_n 0, 1) := by decide +kernel
theorem dX8_worstOf_12 : decode cX8_worstOf 12 = .ok (.invokevirtual 111, 3) := by decide +kernel
theorem dX8_worstOf_15 : decode cX8_worstOf 15 = .ok (.if_icmp .ge 44, 3) := by decide +kernel
theorem dX8_worstOf_18 : decode cX8_worstOf 18 = .ok (.aload_n 0, 1) := by decide +kernel
theorem dX8_worstOf_19 : decode cX8_worstOf 19 = .ok (.iload 4, 2) := by decide +kernel
theorem dX8_worstOf_21 : decode cX8_worstOf 21 = .ok (.iload_n 1, 1) := by decide +kernel
theorem dX8_worstOf_22 : decode cX8_worstOf 22 = .ok (.invokevirtual 252, 3) := by decide +kernel
theorem dX8_worstOf_25 : decode cX8_worstOf 25 = .ok (.istore 5, 2) := by decide +kernel
theorem dX8_worstOf_27 : decode cX8_worstOf 27 = .ok (.iload 5, 2) := by decide +kernel
theorem dX8_worstOf_29 : decode cX8_worstOf 29 = .ok (.iload_n 3, 1) := by decide +kernel
theorem dX8_worstOf_30 : decode cX8_worstOf 30 = .ok (.if_icmp .ge 8, 3) := by decide +kernel
theorem dX8_worstOf_33 : decode cX8_worstOf 33 = .ok (.iload 4, 2) := by decide +kernel
theorem dX8_worstOf_35 : decode cX8_worstOf 35 = .ok (.goto 4, 3) := by decide +kernel
theorem dX8_worstOf_38 : decode cX8_worstOf 38 = .ok (.iload_n 2, 1) := by decide +kernel
theorem dX8_worstOf_39 : decode cX8_worstOf 39 = .ok (.istore_n 2, 1) := by decide +kernel
theorem dX8_worstOf_40 : decode cX8_worstOf 40 = .ok (.iload 5, 2) := by decide +kernel
theorem dX8_worstOf_42 : decode cX8_worstOf 42 = .ok (.iload_n 3, 1) := by decide +kernel
theorem dX8_worstOf_43 : decode cX8_worstOf 43 = .ok (.if_icmp .ge 8, 3) := by decide +kernel
theorem dX8_worstOf_46 : decode cX8_worstOf 46 = .ok (.iload 5, 2) := by decide +kernel
theorem dX8_worstOf_48 : decode cX8_worstOf 48 = .ok (.goto 4, 3) := by decide +kernel
theorem dX8_worstOf_51 : decode cX8_worstOf 51 = .ok (.iload_n 3, 1) := by decide +kernel
theorem dX8_worstOf_52 : decode cX8_worstOf 52 = .ok (.istore_n 3, 1) := by decide +kernel
theorem dX8_worstOf_53 : decode cX8_worstOf 53 = .ok (.iinc 4 1, 3) := by decide +kernel
theorem dX8_worstOf_56 : decode cX8_worstOf 56 = .ok (.goto (-47), 3) := by decide +kernel
theorem dX8_worstOf_59 : decode cX8_worstOf 59 = .ok (.iload_n 2, 1) := by decide +kernel
theorem dX8_worstOf_60 : decode cX8_worstOf 60 = .ok (.ireturn, 1) := by decide +kernel
theorem dX8_worst_0 : decode cX8_worst 0 = .ok (.iload_n 1, 1) := by decide +kernel
theorem dX8_worst_1 : decode cX8_worst 1 = .ok (.invokestatic 179, 3) := by decide +kernel
theorem dX8_worst_4 : decode cX8_worst 4 = .ok (.ifCond .eq 11, 3) := by decide +kernel
theorem dX8_worst_7 : decode cX8_worst 7 = .ok (.aload_n 0, 1) := by decide +kernel
theorem dX8_worst_8 : decode cX8_worst 8 = .ok (.iload_n 1, 1) := by decide +kernel
theorem dX8_worst_9 : decode cX8_worst 9 = .ok (.invokevirtual 255, 3) := by decide +kernel
theorem dX8_worst_12 : decode cX8_worst 12 = .ok (.goto 5, 3) := by decide +kernel
theorem dX8_worst_15 : decode cX8_worst 15 = .ok (.bipush (-2), 2) := by decide +kernel
theorem dX8_worst_17 : decode cX8_worst 17 = .ok (.ireturn, 1) := by decide +kernel
theorem dX8_statesOf_0 : decode cX8_statesOf 0 = .ok (.aload_n 0, 1) := by decide +kernel
theorem dX8_statesOf_1 : decode cX8_statesOf 1 = .ok (.invokevirtual 258, 3) := by decide +kernel
theorem dX8_statesOf_4 : decode cX8_statesOf 4 = .ok (.iconst 0, 1) := by decide +kernel
theorem dX8_statesOf_5 : decode cX8_statesOf 5 = .ok (.istore_n 2, 1) := by decide +kernel
theorem dX8_statesOf_6 : decode cX8_statesOf 6 = .ok (.iconst 0, 1) := by decide +kernel
theorem dX8_statesOf_7 : decode cX8_statesOf 7 = .ok (.istore_n 3, 1) := by decide +kernel
theorem dX8_statesOf_8 : decode cX8_statesOf 8 = .ok (.iload_n 3, 1) := by decide +kernel
theorem dX8_statesOf_9 : decode cX8_statesOf 9 = .ok (.aload_n 0, 1) := by decide +kernel
theorem dX8_statesOf_10 : decode cX8_statesOf 10 = .ok (.invokevirtual 228, 3) := by decide +kernel
theorem dX8_statesOf_13 : decode cX8_statesOf 13 = .ok (.if_icmp .gt 27, 3) := by decide +kernel
theorem dX8_statesOf_16 : decode cX8_statesOf 16 = .ok (.aload_n 0, 1) := by decide +kernel
theorem dX8_statesOf_17 : decode cX8_statesOf 17 = .ok (.iload_n 3, 1) := by decide +kernel
theorem dX8_statesOf_18 : decode cX8_statesOf 18 = .ok (.invokevirtual 261, 3) := by decide +kernel
theorem dX8_statesOf_21 : decode cX8_statesOf 21 = .ok (.ifCond .eq 13, 3) := by decide +kernel
theorem dX8_statesOf_24 : decode cX8_statesOf 24 = .ok (.iload_n 2, 1) := by decide +kernel
theorem dX8_statesOf_25 : decode cX8_statesOf 25 = .ok (.iload_n 1, 1) := by decide +kernel
theorem dX8_statesOf_26 : decode cX8_statesOf 26 = .ok (.if_icmp .ne 5, 3) := by decide +kernel
theorem dX8_statesOf_29 : decode cX8_statesOf 29 = .ok (.iload_n 3, 1) := by decide +kernel
theorem dX8_statesOf_30 : decode cX8_statesOf 30 = .ok (.ireturn, 1) := by decide +kernel
theorem dX8_statesOf_31 : decode cX8_statesOf 31 = .ok (.iinc 2 1, 3) := by decide +kernel
theorem dX8_statesOf_34 : decode cX8_statesOf 34 = .ok (.iinc 3 1, 3) := by decide +kernel
theorem dX8_statesOf_37 : decode cX8_statesOf 37 = .ok (.goto (-29), 3) := by decide +kernel
theorem dX8_statesOf_40 : decode cX8_statesOf 40 = .ok (.iload_n 1, 1) := by decide +kernel
theorem dX8_statesOf_41 : decode cX8_statesOf 41 = .ok (.iconst (-1), 1) := by decide +kernel
theorem dX8_statesOf_42 : decode cX8_statesOf 42 = .ok (.if_icmp .ne 7, 3) := by decide +kernel
theorem dX8_statesOf_45 : decode cX8_statesOf 45 = .ok (.iload_n 2, 1) := by decide +kernel
theorem dX8_statesOf_46 : decode cX8_statesOf 46 = .ok (.goto 4, 3) := by decide +kernel
theorem dX8_statesOf_49 : decode cX8_statesOf 49 = .ok (.iconst (-1), 1) := by decide +kernel
theorem dX8_statesOf_50 : decode cX8_statesOf 50 = .ok (.ireturn, 1) := by decide +kernel
theorem dX8_states_0 : decode cX8_states 0 = .ok (.iload_n 1, 1) := by decide +kernel
theorem dX8_states_1 : decode cX8_states 1 = .ok (.iconst (-1), 1) := by decide +kernel
theorem dX8_states_2 : decode cX8_states 2 = .ok (.if_icmp .lt 11, 3) := by decide +kernel
theorem dX8_states_5 : decode cX8_states 5 = .ok (.aload_n 0, 1) := by decide +kernel
theorem dX8_states_6 : decode cX8_states 6 = .ok (.iload_n 1, 1) := by decide +kernel
theorem dX8_states_7 : decode cX8_states 7 = .ok (.invokevirtual 264, 3) := by decide +kernel
theorem dX8_states_10 : decode cX8_states 10 = .ok (.goto 5, 3) := by decide +kernel
theorem dX8_states_13 : decode cX8_states 13 = .ok (.bipush (-2), 2) := by decide +kernel
theorem dX8_states_15 : decode cX8_states 15 = .ok (.ireturn, 1) := by decide +kernel
theorem dX8_belongsOf_0 : decode cX8_belongsOf 0 = .ok (.aload_n 0, 1) := by decide +kernel
theorem dX8_belongsOf_1 : decode cX8_belongsOf 1 = .ok (.invokevirtual 258, 3) := by decide +kernel
theorem dX8_belongsOf_4 : decode cX8_belongsOf 4 = .ok (.iconst (-1), 1) := by decide +kernel
theorem dX8_belongsOf_5 : decode cX8_belongsOf 5 = .ok (.istore_n 3, 1) := by decide +kernel
theorem dX8_belongsOf_6 : decode cX8_belongsOf 6 = .ok (.sipush 10000, 3) := by decide +kernel
theorem dX8_belongsOf_9 : decode cX8_belongsOf 9 = .ok (.istore 4, 2) := by decide +kernel
theorem dX8_belongsOf_11 : decode cX8_belongsOf 11 = .ok (.iconst 0, 1) := by decide +kernel
theorem dX8_belongsOf_12 : decode cX8_belongsOf 12 = .ok (.istore 5, 2) := by decide +kernel
theorem dX8_belongsOf_14 : decode cX8_belongsOf 14 = .ok (.iconst 0, 1) := by decide +kernel
theorem dX8_belongsOf_15 : decode cX8_belongsOf 15 = .ok (.istore 6, 2) := by decide +kernel
theorem dX8_belongsOf_17 : decode cX8_belongsOf 17 = .ok (.iload 6, 2) := by decide +kernel
theorem dX8_belongsOf_19 : decode cX8_belongsOf 19 = .ok (.aload_n 0, 1) := by decide +kernel
theorem dX8_belongsOf_20 : decode cX8_belongsOf 20 = .ok (.invokevirtual 228, 3) := by decide +kernel
theorem dX8_belongsOf_23 : decode cX8_belongsOf 23 = .ok (.if_icmp .gt 86, 3) := by decide +kernel
theorem dX8_belongsOf_26 : decode cX8_belongsOf 26 = .ok (.aload_n 0, 1) := by decide +kernel
theorem dX8_belongsOf_27 : decode cX8_belongsOf 27 = .ok (.iload 6, 2) := by decide +kernel
theorem dX8_belongsOf_29 : decode cX8_belongsOf 29 = .ok (.invokevirtual 261, 3) := by decide +kernel
theorem dX8_belongsOf_32 : decode cX8_belongsOf 32 = .ok (.ifCond .eq 71, 3) := by decide +kernel
theorem dX8_belongsOf_35 : decode cX8_belongsOf 35 = .ok (.aload_n 0, 1) := by decide +kernel
theorem dX8_belongsOf_36 : decode cX8_belongsOf 36 = .ok (.iload_n 1, 1) := by decide +kernel
theorem dX8_belongsOf_37 : decode cX8_belongsOf 37 = .ok (.iload 6, 2) := by decide +kernel
theorem dX8_belongsOf_39 : decode cX8_belongsOf 39 = .ok (.invokevirtual 197, 3) := by decide +kernel
theorem dX8_belongsOf_42 : decode cX8_belongsOf 42 = .ok (.istore 7, 2) := by decide +kernel
theorem dX8_belongsOf_44 : decode cX8_belongsOf 44 = .ok (.iload 7, 2) := by decide +kernel
theorem dX8_belongsOf_46 : decode cX8_belongsOf 46 = .ok (.iload 4, 2) := by decide +kernel
theorem dX8_belongsOf_48 : decode cX8_belongsOf 48 = .ok (.if_icmp .ge 8, 3) := by decide +kernel
theorem dX8_belongsOf_51 : decode cX8_belongsOf 51 = .ok (.iload 6, 2) := by decide +kernel
theorem dX8_belongsOf_53 : decode cX8_belongsOf 53 = .ok (.goto 4, 3) := by decide +kernel
theorem dX8_belongsOf_56 : decode cX8_belongsOf 56 = .ok (.iload_n 3, 1) := by decide +kernel
theorem dX8_belongsOf_57 : decode cX8_belongsOf 57 = .ok (.istore_n 3, 1) := by decide +kernel
theorem dX8_belongsOf_58 : decode cX8_belongsOf 58 = .ok (.iload 7, 2) := by decide +kernel
theorem dX8_belongsOf_60 : decode cX8_belongsOf 60 = .ok (.iload 4, 2) := by decide +kernel
theorem dX8_belongsOf_62 : decode cX8_belongsOf 62 = .ok (.if_icmp .ge 7, 3) := by decide +kernel
theorem dX8_belongsOf_65 : decode cX8_belongsOf 65 = .ok (.iconst 1, 1) := by decide +kernel
theorem dX8_belongsOf_66 : decode cX8_belongsOf 66 = .ok (.goto 19, 3) := by decide +kernel
theorem dX8_belongsOf_69 : decode cX8_belongsOf 69 = .ok (.iload 7, 2) := by decide +kernel
theorem dX8_belongsOf_71 : decode cX8_belongsOf 71 = .ok (.iload 4, 2) := by decide +kernel
theorem dX8_belongsOf_73 : decode cX8_belongsOf 73 = .ok (.if_icmp .ne 10, 3) := by decide +kernel
theorem dX8_belongsOf_76 : decode cX8_belongsOf 76 = .ok (.iload 5, 2) := by decide +kernel
theorem dX8_belongsOf_78 : decode cX8_belongsOf 78 = .ok (.iconst 1, 1) := by decide +kernel
theorem dX8_belongsOf_79 : decode cX8_belongsOf 79 = .ok (.iadd, 1) := by decide +kernel
theorem dX8_belongsOf_80 : decode cX8_belongsOf 80 = .ok (.goto 5, 3) := by decide +kernel
theorem dX8_belongsOf_83 : decode cX8_belongsOf 83 = .ok (.iload 5, 2) := by decide +kernel
theorem dX8_belongsOf_85 : decode cX8_belongsOf 85 = .ok (.istore 5, 2) := by decide +kernel
theorem dX8_belongsOf_87 : decode cX8_belongsOf 87 = .ok (.iload 7, 2) := by decide +kernel
theorem dX8_belongsOf_89 : decode cX8_belongsOf 89 = .ok (.iload 4, 2) := by decide +kernel
theorem dX8_belongsOf_91 : decode cX8_belongsOf 91 = .ok (.if_icmp .ge 8, 3) := by decide +kernel
theorem dX8_belongsOf_94 : decode cX8_belongsOf 94 = .ok (.iload 7, 2) := by decide +kernel
theorem dX8_belongsOf_96 : decode cX8_belongsOf 96 = .ok (.goto 5, 3) := by decide +kernel
theorem dX8_belongsOf_99 : decode cX8_belongsOf 99 = .ok (.iload 4, 2) := by decide +kernel
theorem dX8_belongsOf_101 : decode cX8_belongsOf 101 = .ok (.istore 4, 2) := by decide +kernel
theorem dX8_belongsOf_103 : decode cX8_belongsOf 103 = .ok (.iinc 6 1, 3) := by decide +kernel
theorem dX8_belongsOf_106 : decode cX8_belongsOf 106 = .ok (.goto (-89), 3) := by decide +kernel
theorem dX8_belongsOf_109 : decode cX8_belongsOf 109 = .ok (.iload_n 2, 1) := by decide +kernel
theorem dX8_belongsOf_110 : decode cX8_belongsOf 110 = .ok (.ifCond .ne 7, 3) := by decide +kernel
theorem dX8_belongsOf_113 : decode cX8_belongsOf 113 = .ok (.iload_n 3, 1) := by decide +kernel
theorem dX8_belongsOf_114 : decode cX8_belongsOf 114 = .ok (.goto 15, 3) := by decide +kernel
theorem dX8_belongsOf_117 : decode cX8_belongsOf 117 = .ok (.iload_n 2, 1) := by decide +kernel
theorem dX8_belongsOf_118 : decode cX8_belongsOf 118 = .ok (.iconst 1, 1) := by decide +kernel
theorem dX8_belongsOf_119 : decode cX8_belongsOf 119 = .ok (.if_icmp .ne 8, 3) := by decide +kernel
theorem dX8_belongsOf_122 : decode cX8_belongsOf 122 = .ok (.iload 4, 2) := by decide +kernel
theorem dX8_belongsOf_124 : decode cX8_belongsOf 124 = .ok (.goto 5, 3) := by decide +kernel
theorem dX8_belongsOf_127 : decode cX8_belongsOf 127 = .ok (.iload 5, 2) := by decide +kernel
theorem dX8_belongsOf_129 : decode cX8_belongsOf 129 = .ok (.ireturn, 1) := by decide +kernel
theorem dX8_belongs_0 : decode cX8_belongs 0 = .ok (.iload_n 1, 1) := by decide +kernel
theorem dX8_belongs_1 : decode cX8_belongs 1 = .ok (.invokestatic 123, 3) := by decide +kernel
theorem dX8_belongs_4 : decode cX8_belongs 4 = .ok (.ifCond .eq 24, 3) := by decide +kernel
theorem dX8_belongs_7 : decode cX8_belongs 7 = .ok (.iload_n 2, 1) := by decide +kernel
theorem dX8_belongs_8 : decode cX8_belongs 8 = .ok (.i2l, 1) := by decide +kernel
theorem dX8_belongs_9 : decode cX8_belongs 9 = .ok (.lconst 0, 1) := by decide +kernel
theorem dX8_belongs_10 : decode cX8_belongs 10 = .ok (.ldc2_w 92, 3) := by decide +kernel
theorem dX8_belongs_13 : decode cX8_belongs 13 = .ok (.invokestatic 78, 3) := by decide +kernel
theorem dX8_belongs_16 : decode cX8_belongs 16 = .ok (.ifCond .eq 12, 3) := by decide +kernel
theorem dX8_belongs_19 : decode cX8_belongs 19 = .ok (.aload_n 0, 1) := by decide +kernel
theorem dX8_belongs_20 : decode cX8_belongs 20 = .ok (.iload_n 1, 1) := by decide +kernel
theorem dX8_belongs_21 : decode cX8_belongs 21 = .ok (.iload_n 2, 1) := by decide +kernel
theorem dX8_belongs_22 : decode cX8_belongs 22 = .ok (.invokevirtual 267, 3) := by decide +kernel
theorem dX8_belongs_25 : decode cX8_belongs 25 = .ok (.goto 5, 3) := by decide +kernel
theorem dX8_belongs_28 : decode cX8_belongs 28 = .ok (.bipush (-2), 2) := by decide +kernel
theorem dX8_belongs_30 : decode cX8_belongs 30 = .ok (.ireturn, 1) := by decide +kernel
theorem dX8_next_0 : decode cX8_next 0 = .ok (.iload_n 1, 1) := by decide +kernel
theorem dX8_next_1 : decode cX8_next 1 = .ok (.i2l, 1) := by decide +kernel
theorem dX8_next_2 : decode cX8_next 2 = .ok (.lconst 0, 1) := by decide +kernel
theorem dX8_next_3 : decode cX8_next 3 = .ok (.ldc2_w 195, 3) := by decide +kernel
theorem dX8_next_6 : decode cX8_next 6 = .ok (.invokestatic 78, 3) := by decide +kernel
theorem dX8_next_9 : decode cX8_next 9 = .ok (.ifCond .eq 15, 3) := by decide +kernel
theorem dX8_next_12 : decode cX8_next 12 = .ok (.iload_n 2, 1) := by decide +kernel
theorem dX8_next_13 : decode cX8_next 13 = .ok (.i2l, 1) := by decide +kernel
theorem dX8_next_14 : decode cX8_next 14 = .ok (.lconst 0, 1) := by decide +kernel
theorem dX8_next_15 : decode cX8_next 15 = .ok (.ldc2_w 92, 3) := by decide +kernel
theorem dX8_next_18 : decode cX8_next 18 = .ok (.invokestatic 78, 3) := by decide +kernel
theorem dX8_next_21 : decode cX8_next 21 = .ok (.ifCond .ne 6, 3) := by decide +kernel
theorem dX8_next_24 : decode cX8_next 24 = .ok (.bipush (-2), 2) := by decide +kernel
theorem dX8_next_26 : decode cX8_next 26 = .ok (.ireturn, 1) := by decide +kernel
theorem dX8_next_27 : decode cX8_next 27 = .ok (.aload_n 0, 1) := by decide +kernel
theorem dX8_next_28 : decode cX8_next 28 = .ok (.invokevirtual 258, 3) := by decide +kernel
theorem dX8_next_31 : decode cX8_next 31 = .ok (.iload_n 1, 1) := by decide +kernel
theorem dX8_next_32 : decode cX8_next 32 = .ok (.aload_n 0, 1) := by decide +kernel
theorem dX8_next_33 : decode cX8_next 33 = .ok (.invokevirtual 228, 3) := by decide +kernel
theorem dX8_next_36 : decode cX8_next 36 = .ok (.iand, 1) := by decide +kernel
theorem dX8_next_37 : decode cX8_next 37 = .ok (.istore_n 3, 1) := by decide +kernel
theorem dX8_next_38 : decode cX8_next 38 = .ok (.iload_n 2, 1) := by decide +kernel
theorem dX8_next_39 : decode cX8_next 39 = .ok (.iconst 2, 1) := by decide +kernel
theorem dX8_next_40 : decode cX8_next 40 = .ok (.if_icmp .ne 17, 3) := by decide +kernel
theorem dX8_next_43 : decode cX8_next 43 = .ok (.aload_n 0, 1) := by decide +kernel
theorem dX8_next_44 : decode cX8_next 44 = .ok (.iload_n 3, 1) := by decide +kernel
theorem dX8_next_45 : decode cX8_next 45 = .ok (.invokevirtual 261, 3) := by decide +kernel
theorem dX8_next_48 : decode cX8_next 48 = .ok (.ifCond .eq 7, 3) := by decide +kernel
theorem dX8_next_51 : decode cX8_next 51 = .ok (.iconst 1, 1) := by decide +kernel
theorem dX8_next_52 : decode cX8_next 52 = .ok (.goto 4, 3) := by decide +kernel
theorem dX8_next_55 : decode cX8_next 55 = .ok (.iconst 0, 1) := by decide +kernel
theorem dX8_next_56 : decode cX8_next 56 = .ok (.ireturn, 1) := by decide +kernel
theorem dX8_next_57 : decode cX8_next 57 = .ok (.iconst 0, 1) := by decide +kernel
theorem dX8_next_58 : decode cX8_next 58 = .ok (.istore 4, 2) := by decide +kernel
theorem dX8_next_60 : decode cX8_next 60 = .ok (.iconst 0, 1) := by decide +kernel
theorem dX8_next_61 : decode cX8_next 61 = .ok (.istore 5, 2) := by decide +kernel
theorem dX8_next_63 : decode cX8_next 63 = .ok (.iload 5, 2) := by decide +kernel
theorem dX8_next_65 : decode cX8_next 65 = .ok (.aload_n 0, 1) := by decide +kernel
theorem dX8_next_66 : decode cX8_next 66 = .ok (.invokevirtual 111, 3) := by decide +kernel
theorem dX8_next_69 : decode cX8_next 69 = .ok (.if_icmp .ge 66, 3) := by decide +kernel
theorem dX8_next_72 : decode cX8_next 72 = .ok (.iload_n 3, 1) := by decide +kernel
theorem dX8_next_73 : decode cX8_next 73 = .ok (.iload 5, 2) := by decide +kernel
theorem dX8_next_75 : decode cX8_next 75 = .ok (.invokestatic 153, 3) := by decide +kernel
theorem dX8_next_78 : decode cX8_next 78 = .ok (.iload_n 2, 1) := by decide +kernel
theorem dX8_next_79 : decode cX8_next 79 = .ok (.iconst 1, 1) := by decide +kernel
theorem dX8_next_80 : decode cX8_next 80 = .ok (.if_icmp .ne 7, 3) := by decide +kernel
theorem dX8_next_83 : decode cX8_next 83 = .ok (.iconst 1, 1) := by decide +kernel
theorem dX8_next_84 : decode cX8_next 84 = .ok (.goto 4, 3) := by decide +kernel
theorem dX8_next_87 : decode cX8_next 87 = .ok (.iconst 0, 1) := by decide +kernel
theorem dX8_next_88 : decode cX8_next 88 = .ok (.if_icmp .ne 7, 3) := by decide +kernel
theorem dX8_next_91 : decode cX8_next 91 = .ok (.iconst 1, 1) := by decide +kernel
theorem dX8_next_92 : decode cX8_next 92 = .ok (.goto 4, 3) := by decide +kernel
theorem dX8_next_95 : decode cX8_next 95 = .ok (.iconst 0, 1) := by decide +kernel
theorem dX8_next_96 : decode cX8_next 96 = .ok (.istore 6, 2) := by decide +kernel
theorem dX8_next_98 : decode cX8_next 98 = .ok (.iload 4, 2) := by decide +kernel
theorem dX8_next_100 : decode cX8_next 100 = .ok (.iload 6, 2) := by decide +kernel
theorem dX8_next_102 : decode cX8_next 102 = .ok (.ifCond .eq 23, 3) := by decide +kernel
theorem dX8_next_105 : decode cX8_next 105 = .ok (.aload_n 0, 1) := by decide +kernel
theorem dX8_next_106 : decode cX8_next 106 = .ok (.iload_n 3, 1) := by decide +kernel
theorem dX8_next_107 : decode cX8_next 107 = .ok (.iconst 1, 1) := by decide +kernel
theorem dX8_next_108 : decode cX8_next 108 = .ok (.iload 5, 2) := by decide +kernel
theorem dX8_next_110 : decode cX8_next 110 = .ok (.ishl, 1) := by decide +kernel
theorem dX8_next_111 : decode cX8_next 111 = .ok (.ixor, 1) := by decide +kernel
theorem dX8_next_112 : decode cX8_next 112 = .ok (.invokevirtual 261, 3) := by decide +kernel
theorem dX8_next_115 : decode cX8_next 115 = .ok (.ifCond .eq 10, 3) := by decide +kernel
theorem dX8_next_118 : decode cX8_next 118 = .ok (.iconst 1, 1) := by decide +kernel
theorem dX8_next_119 : decode cX8_next 119 = .ok (.iload 5, 2) := by decide +kernel
theorem dX8_next_121 : decode cX8_next 121 = .ok (.ishl, 1) := by decide +kernel
theorem dX8_next_122 : decode cX8_next 122 = .ok (.goto 4, 3) := by decide +kernel
theorem dX8_next_125 : decode cX8_next 125 = .ok (.iconst 0, 1) := by decide +kernel
theorem dX8_next_126 : decode cX8_next 126 = .ok (.ior, 1) := by decide +kernel
theorem dX8_next_127 : decode cX8_next 127 = .ok (.istore 4, 2) := by decide +kernel
theorem dX8_next_129 : decode cX8_next 129 = .ok (.iinc 5 1, 3) := by decide +kernel
theorem dX8_next_132 : decode cX8_next 132 = .ok (.goto (-69), 3) := by decide +kernel
theorem dX8_next_135 : decode cX8_next 135 = .ok (.iload 4, 2) := by decide +kernel
theorem dX8_next_137 : decode cX8_next 137 = .ok (.ireturn, 1) := by decide +kernel
theorem dX8_pathsNow_0 : decode cX8_pathsNow 0 = .ok (.aload_n 0, 1) := by decide +kernel
theorem dX8_pathsNow_1 : decode cX8_pathsNow 1 = .ok (.invokevirtual 258, 3) := by decide +kernel
theorem dX8_pathsNow_4 : decode cX8_pathsNow 4 = .ok (.iconst 0, 1) := by decide +kernel
theorem dX8_pathsNow_5 : decode cX8_pathsNow 5 = .ok (.istore_n 1, 1) := by decide +kernel
theorem dX8_pathsNow_6 : decode cX8_pathsNow 6 = .ok (.iload_n 1, 1) := by decide +kernel
theorem dX8_pathsNow_7 : decode cX8_pathsNow 7 = .ok (.aload_n 0, 1) := by decide +kernel
theorem dX8_pathsNow_8 : decode cX8_pathsNow 8 = .ok (.invokevirtual 228, 3) := by decide +kernel
theorem dX8_pathsNow_11 : decode cX8_pathsNow 11 = .ok (.if_icmp .gt 79, 3) := by decide +kernel
theorem dX8_pathsNow_14 : decode cX8_pathsNow 14 = .ok (.aload_n 0, 1) := by decide +kernel
theorem dX8_pathsNow_15 : decode cX8_pathsNow 15 = .ok (.getfield 58, 3) := by decide +kernel
theorem dX8_pathsNow_18 : decode cX8_pathsNow 18 = .ok (.iload_n 1, 1) := by decide +kernel
theorem dX8_pathsNow_19 : decode cX8_pathsNow 19 = .ok (.iload_n 1, 1) := by decide +kernel
theorem dX8_pathsNow_20 : decode cX8_pathsNow 20 = .ok (.ifCond .ne 7, 3) := by decide +kernel
theorem dX8_pathsNow_23 : decode cX8_pathsNow 23 = .ok (.iconst 1, 1) := by decide +kernel
theorem dX8_pathsNow_24 : decode cX8_pathsNow 24 = .ok (.goto 4, 3) := by decide +kernel
theorem dX8_pathsNow_27 : decode cX8_pathsNow 27 = .ok (.iconst 0, 1) := by decide +kernel
theorem dX8_pathsNow_28 : decode cX8_pathsNow 28 = .ok (.iastore, 1) := by decide +kernel
theorem dX8_pathsNow_29 : decode cX8_pathsNow 29 = .ok (.iconst 0, 1) := by decide +kernel
theorem dX8_pathsNow_30 : decode cX8_pathsNow 30 = .ok (.istore_n 2, 1) := by decide +kernel
theorem dX8_pathsNow_31 : decode cX8_pathsNow 31 = .ok (.iload_n 2, 1) := by decide +kernel
theorem dX8_pathsNow_32 : decode cX8_pathsNow 32 = .ok (.aload_n 0, 1) := by decide +kernel
theorem dX8_pathsNow_33 : decode cX8_pathsNow 33 = .ok (.invokevirtual 111, 3) := by decide +kernel
theorem dX8_pathsNow_36 : decode cX8_pathsNow 36 = .ok (.if_icmp .ge 48, 3) := by decide +kernel
theorem dX8_pathsNow_39 : decode cX8_pathsNow 39 = .ok (.aload_n 0, 1) := by decide +kernel
theorem dX8_pathsNow_40 : decode cX8_pathsNow 40 = .ok (.getfield 58, 3) := by decide +kernel
theorem dX8_pathsNow_43 : decode cX8_pathsNow 43 = .ok (.iload_n 1, 1) := by decide +kernel
theorem dX8_pathsNow_44 : decode cX8_pathsNow 44 = .ok (.dup2, 1) := by decide +kernel
theorem dX8_pathsNow_45 : decode cX8_pathsNow 45 = .ok (.iaload, 1) := by decide +kernel
theorem dX8_pathsNow_46 : decode cX8_pathsNow 46 = .ok (.iload_n 1, 1) := by decide +kernel
theorem dX8_pathsNow_47 : decode cX8_pathsNow 47 = .ok (.iload_n 2, 1) := by decide +kernel
theorem dX8_pathsNow_48 : decode cX8_pathsNow 48 = .ok (.invokestatic 153, 3) := by decide +kernel
theorem dX8_pathsNow_51 : decode cX8_pathsNow 51 = .ok (.ifCond .eq 24, 3) := by decide +kernel
theorem dX8_pathsNow_54 : decode cX8_pathsNow 54 = .ok (.aload_n 0, 1) := by decide +kernel
theorem dX8_pathsNow_55 : decode cX8_pathsNow 55 = .ok (.iload_n 1, 1) := by decide +kernel
theorem dX8_pathsNow_56 : decode cX8_pathsNow 56 = .ok (.invokevirtual 261, 3) := by decide +kernel
theorem dX8_pathsNow_59 : decode cX8_pathsNow 59 = .ok (.ifCond .eq 16, 3) := by decide +kernel
theorem dX8_pathsNow_62 : decode cX8_pathsNow 62 = .ok (.aload_n 0, 1) := by decide +kernel
theorem dX8_pathsNow_63 : decode cX8_pathsNow 63 = .ok (.getfield 58, 3) := by decide +kernel
theorem dX8_pathsNow_66 : decode cX8_pathsNow 66 = .ok (.iload_n 1, 1) := by decide +kernel
theorem dX8_pathsNow_67 : decode cX8_pathsNow 67 = .ok (.iconst 1, 1) := by decide +kernel
theorem dX8_pathsNow_68 : decode cX8_pathsNow 68 = .ok (.iload_n 2, 1) := by decide +kernel
theorem dX8_pathsNow_69 : decode cX8_pathsNow 69 = .ok (.ishl, 1) := by decide +kernel
theorem dX8_pathsNow_70 : decode cX8_pathsNow 70 = .ok (.ixor, 1) := by decide +kernel
theorem dX8_pathsNow_71 : decode cX8_pathsNow 71 = .ok (.iaload, 1) := by decide +kernel
theorem dX8_pathsNow_72 : decode cX8_pathsNow 72 = .ok (.goto 4, 3) := by decide +kernel
theorem dX8_pathsNow_75 : decode cX8_pathsNow 75 = .ok (.iconst 0, 1) := by decide +kernel
theorem dX8_pathsNow_76 : decode cX8_pathsNow 76 = .ok (.iadd, 1) := by decide +kernel
theorem dX8_pathsNow_77 : decode cX8_pathsNow 77 = .ok (.iastore, 1) := by decide +kernel
theorem dX8_pathsNow_78 : decode cX8_pathsNow 78 = .ok (.iinc 2 1, 3) := by decide +kernel
theorem dX8_pathsNow_81 : decode cX8_pathsNow 81 = .ok (.goto (-50), 3) := by decide +kernel
theorem dX8_pathsNow_84 : decode cX8_pathsNow 84 = .ok (.iinc 1 1, 3) := by decide +kernel
theorem dX8_pathsNow_87 : decode cX8_pathsNow 87 = .ok (.goto (-81), 3) := by decide +kernel
theorem dX8_pathsNow_90 : decode cX8_pathsNow 90 = .ok (.aload_n 0, 1) := by decide +kernel
theorem dX8_pathsNow_91 : decode cX8_pathsNow 91 = .ok (.getfield 58, 3) := by decide +kernel
theorem dX8_pathsNow_94 : decode cX8_pathsNow 94 = .ok (.aload_n 0, 1) := by decide +kernel
theorem dX8_pathsNow_95 : decode cX8_pathsNow 95 = .ok (.invokevirtual 228, 3) := by decide +kernel
theorem dX8_pathsNow_98 : decode cX8_pathsNow 98 = .ok (.iaload, 1) := by decide +kernel
theorem dX8_pathsNow_99 : decode cX8_pathsNow 99 = .ok (.ireturn, 1) := by decide +kernel
theorem dX8_paths_0 : decode cX8_paths 0 = .ok (.aload_n 0, 1) := by decide +kernel
theorem dX8_paths_1 : decode cX8_paths 1 = .ok (.invokevirtual 270, 3) := by decide +kernel
theorem dX8_paths_4 : decode cX8_paths 4 = .ok (.ireturn, 1) := by decide +kernel
theorem dX8_deepOf_0 : decode cX8_deepOf 0 = .ok (.aload_n 0, 1) := by decide +kernel
theorem dX8_deepOf_1 : decode cX8_deepOf 1 = .ok (.invokevirtual 258, 3) := by decide +kernel
theorem dX8_deepOf_4 : decode cX8_deepOf 4 = .ok (.sipush 10000, 3) := by decide +kernel
theorem dX8_deepOf_7 : decode cX8_deepOf 7 = .ok (.istore_n 2, 1) := by decide +kernel
theorem dX8_deepOf_8 : decode cX8_deepOf 8 = .ok (.iconst 0, 1) := by decide +kernel
theorem dX8_deepOf_9 : decode cX8_deepOf 9 = .ok (.istore_n 3, 1) := by decide +kernel
theorem dX8_deepOf_10 : decode cX8_deepOf 10 = .ok (.iload_n 3, 1) := by decide +kernel
theorem dX8_deepOf_11 : decode cX8_deepOf 11 = .ok (.aload_n 0, 1) := by decide +kernel
theorem dX8_deepOf_12 : decode cX8_deepOf 12 = .ok (.invokevirtual 228, 3) := by decide +kernel
theorem dX8_deepOf_15 : decode cX8_deepOf 15 = .ok (.if_icmp .gt 42, 3) := by decide +kernel
theorem dX8_deepOf_18 : decode cX8_deepOf 18 = .ok (.iload_n 3, 1) := by decide +kernel
theorem dX8_deepOf_19 : decode cX8_deepOf 19 = .ok (.iload_n 1, 1) := by decide +kernel
theorem dX8_deepOf_20 : decode cX8_deepOf 20 = .ok (.invokestatic 153, 3) := by decide +kernel
theorem dX8_deepOf_23 : decode cX8_deepOf 23 = .ok (.ifCond .eq 26, 3) := by decide +kernel
theorem dX8_deepOf_26 : decode cX8_deepOf 26 = .ok (.aload_n 0, 1) := by decide +kernel
theorem dX8_deepOf_27 : decode cX8_deepOf 27 = .ok (.iload_n 3, 1) := by decide +kernel
theorem dX8_deepOf_28 : decode cX8_deepOf 28 = .ok (.invokevirtual 261, 3) := by decide +kernel
theorem dX8_deepOf_31 : decode cX8_deepOf 31 = .ok (.ifCond .eq 18, 3) := by decide +kernel
theorem dX8_deepOf_34 : decode cX8_deepOf 34 = .ok (.iload_n 3, 1) := by decide +kernel
theorem dX8_deepOf_35 : decode cX8_deepOf 35 = .ok (.invokestatic 192, 3) := by decide +kernel
theorem dX8_deepOf_38 : decode cX8_deepOf 38 = .ok (.iload_n 2, 1) := by decide +kernel
theorem dX8_deepOf_39 : decode cX8_deepOf 39 = .ok (.if_icmp .ge 10, 3) := by decide +kernel
theorem dX8_deepOf_42 : decode cX8_deepOf 42 = .ok (.iload_n 3, 1) := by decide +kernel
theorem dX8_deepOf_43 : decode cX8_deepOf 43 = .ok (.invokestatic 192, 3) := by decide +kernel
theorem dX8_deepOf_46 : decode cX8_deepOf 46 = .ok (.goto 4, 3) := by decide +kernel
theorem dX8_deepOf_49 : decode cX8_deepOf 49 = .ok (.iload_n 2, 1) := by decide +kernel
theorem dX8_deepOf_50 : decode cX8_deepOf 50 = .ok (.istore_n 2, 1) := by decide +kernel
theorem dX8_deepOf_51 : decode cX8_deepOf 51 = .ok (.iinc 3 1, 3) := by decide +kernel
theorem dX8_deepOf_54 : decode cX8_deepOf 54 = .ok (.goto (-44), 3) := by decide +kernel
theorem dX8_deepOf_57 : decode cX8_deepOf 57 = .ok (.iload_n 2, 1) := by decide +kernel
theorem dX8_deepOf_58 : decode cX8_deepOf 58 = .ok (.ireturn, 1) := by decide +kernel
theorem dX8_deep_0 : decode cX8_deep 0 = .ok (.aload_n 0, 1) := by decide +kernel
theorem dX8_deep_1 : decode cX8_deep 1 = .ok (.iload_n 1, 1) := by decide +kernel
theorem dX8_deep_2 : decode cX8_deep 2 = .ok (.invokevirtual 176, 3) := by decide +kernel
theorem dX8_deep_5 : decode cX8_deep 5 = .ok (.ifCond .eq 11, 3) := by decide +kernel
theorem dX8_deep_8 : decode cX8_deep 8 = .ok (.aload_n 0, 1) := by decide +kernel
theorem dX8_deep_9 : decode cX8_deep 9 = .ok (.iload_n 1, 1) := by decide +kernel
theorem dX8_deep_10 : decode cX8_deep 10 = .ok (.invokevirtual 273, 3) := by decide +kernel
theorem dX8_deep_13 : decode cX8_deep 13 = .ok (.goto 5, 3) := by decide +kernel
theorem dX8_deep_16 : decode cX8_deep 16 = .ok (.bipush (-2), 2) := by decide +kernel
theorem dX8_deep_18 : decode cX8_deep 18 = .ok (.ireturn, 1) := by decide +kernel
theorem dX8_byAsking_0 : decode cX8_byAsking 0 = .ok (.iload_n 2, 1) := by decide +kernel
theorem dX8_byAsking_1 : decode cX8_byAsking 1 = .ok (.aload_n 0, 1) := by decide +kernel
theorem dX8_byAsking_2 : decode cX8_byAsking 2 = .ok (.getfield 64, 3) := by decide +kernel
theorem dX8_byAsking_5 : decode cX8_byAsking 5 = .ok (.iload_n 1, 1) := by decide +kernel
theorem dX8_byAsking_6 : decode cX8_byAsking 6 = .ok (.iaload, 1) := by decide +kernel
theorem dX8_byAsking_7 : decode cX8_byAsking 7 = .ok (.iand, 1) := by decide +kernel
theorem dX8_byAsking_8 : decode cX8_byAsking 8 = .ok (.istore_n 3, 1) := by decide +kernel
theorem dX8_byAsking_9 : decode cX8_byAsking 9 = .ok (.iload_n 2, 1) := by decide +kernel
theorem dX8_byAsking_10 : decode cX8_byAsking 10 = .ok (.aload_n 0, 1) := by decide +kernel
theorem dX8_byAsking_11 : decode cX8_byAsking 11 = .ok (.getfield 64, 3) := by decide +kernel
theorem dX8_byAsking_14 : decode cX8_byAsking 14 = .ok (.iload_n 1, 1) := by decide +kernel
theorem dX8_byAsking_15 : decode cX8_byAsking 15 = .ok (.iaload, 1) := by decide +kernel
theorem dX8_byAsking_16 : decode cX8_byAsking 16 = .ok (.iconst (-1), 1) := by decide +kernel
theorem dX8_byAsking_17 : decode cX8_byAsking 17 = .ok (.ixor, 1) := by decide +kernel
theorem dX8_byAsking_18 : decode cX8_byAsking 18 = .ok (.iand, 1) := by decide +kernel
theorem dX8_byAsking_19 : decode cX8_byAsking 19 = .ok (.istore 4, 2) := by decide +kernel
theorem dX8_byAsking_21 : decode cX8_byAsking 21 = .ok (.iload_n 3, 1) := by decide +kernel
theorem dX8_byAsking_22 : decode cX8_byAsking 22 = .ok (.ifCond .eq 8, 3) := by decide +kernel
theorem dX8_byAsking_25 : decode cX8_byAsking 25 = .ok (.iload 4, 2) := by decide +kernel
theorem dX8_byAsking_27 : decode cX8_byAsking 27 = .ok (.ifCond .ne 7, 3) := by decide +kernel
theorem dX8_byAsking_30 : decode cX8_byAsking 30 = .ok (.sipush 10000, 3) := by decide +kernel
theorem dX8_byAsking_33 : decode cX8_byAsking 33 = .ok (.ireturn, 1) := by decide +kernel
theorem dX8_byAsking_34 : decode cX8_byAsking 34 = .ok (.iconst 1, 1) := by decide +kernel
theorem dX8_byAsking_35 : decode cX8_byAsking 35 = .ok (.aload_n 0, 1) := by decide +kernel
theorem dX8_byAsking_36 : decode cX8_byAsking 36 = .ok (.getfield 67, 3) := by decide +kernel
theorem dX8_byAsking_39 : decode cX8_byAsking 39 = .ok (.iload_n 3, 1) := by decide +kernel
theorem dX8_byAsking_40 : decode cX8_byAsking 40 = .ok (.iaload, 1) := by decide +kernel
theorem dX8_byAsking_41 : decode cX8_byAsking 41 = .ok (.aload_n 0, 1) := by decide +kernel
theorem dX8_byAsking_42 : decode cX8_byAsking 42 = .ok (.getfield 67, 3) := by decide +kernel
theorem dX8_byAsking_45 : decode cX8_byAsking 45 = .ok (.iload 4, 2) := by decide +kernel
theorem dX8_byAsking_47 : decode cX8_byAsking 47 = .ok (.iaload, 1) := by decide +kernel
theorem dX8_byAsking_48 : decode cX8_byAsking 48 = .ok (.if_icmp .le 12, 3) := by decide +kernel
theorem dX8_byAsking_51 : decode cX8_byAsking 51 = .ok (.aload_n 0, 1) := by decide +kernel
theorem dX8_byAsking_52 : decode cX8_byAsking 52 = .ok (.getfield 67, 3) := by decide +kernel
theorem dX8_byAsking_55 : decode cX8_byAsking 55 = .ok (.iload_n 3, 1) := by decide +kernel
theorem dX8_byAsking_56 : decode cX8_byAsking 56 = .ok (.iaload, 1) := by decide +kernel
theorem dX8_byAsking_57 : decode cX8_byAsking 57 = .ok (.goto 10, 3) := by decide +kernel
theorem dX8_byAsking_60 : decode cX8_byAsking 60 = .ok (.aload_n 0, 1) := by decide +kernel
theorem dX8_byAsking_61 : decode cX8_byAsking 61 = .ok (.getfield 67, 3) := by decide +kernel
theorem dX8_byAsking_64 : decode cX8_byAsking 64 = .ok (.iload 4, 2) := by decide +kernel
theorem dX8_byAsking_66 : decode cX8_byAsking 66 = .ok (.iaload, 1) := by decide +kernel
theorem dX8_byAsking_67 : decode cX8_byAsking 67 = .ok (.iadd, 1) := by decide +kernel
theorem dX8_byAsking_68 : decode cX8_byAsking 68 = .ok (.ireturn, 1) := by decide +kernel
theorem dX8_sureOf_0 : decode cX8_sureOf 0 = .ok (.aload_n 0, 1) := by decide +kernel
theorem dX8_sureOf_1 : decode cX8_sureOf 1 = .ok (.invokevirtual 258, 3) := by decide +kernel
theorem dX8_sureOf_4 : decode cX8_sureOf 4 = .ok (.iconst 0, 1) := by decide +kernel
theorem dX8_sureOf_5 : decode cX8_sureOf 5 = .ok (.istore 4, 2) := by decide +kernel
theorem dX8_sureOf_7 : decode cX8_sureOf 7 = .ok (.iconst 0, 1) := by decide +kernel
theorem dX8_sureOf_8 : decode cX8_sureOf 8 = .ok (.istore 5, 2) := by decide +kernel
theorem dX8_sureOf_10 : decode cX8_sureOf 10 = .ok (.iload 5, 2) := by decide +kernel
theorem dX8_sureOf_12 : decode cX8_sureOf 12 = .ok (.aload_n 0, 1) := by decide +kernel
theorem dX8_sureOf_13 : decode cX8_sureOf 13 = .ok (.invokevirtual 228, 3) := by decide +kernel
theorem dX8_sureOf_16 : decode cX8_sureOf 16 = .ok (.if_icmp .gt 58, 3) := by decide +kernel
theorem dX8_sureOf_19 : decode cX8_sureOf 19 = .ok (.aload_n 0, 1) := by decide +kernel
theorem dX8_sureOf_20 : decode cX8_sureOf 20 = .ok (.iload 5, 2) := by decide +kernel
theorem dX8_sureOf_22 : decode cX8_sureOf 22 = .ok (.invokevirtual 261, 3) := by decide +kernel
theorem dX8_sureOf_25 : decode cX8_sureOf 25 = .ok (.ifCond .eq 43, 3) := by decide +kernel
theorem dX8_sureOf_28 : decode cX8_sureOf 28 = .ok (.iload_n 1, 1) := by decide +kernel
theorem dX8_sureOf_29 : decode cX8_sureOf 29 = .ok (.aload_n 0, 1) := by decide +kernel
theorem dX8_sureOf_30 : decode cX8_sureOf 30 = .ok (.invokevirtual 228, 3) := by decide +kernel
theorem dX8_sureOf_33 : decode cX8_sureOf 33 = .ok (.iand, 1) := by decide +kernel
theorem dX8_sureOf_34 : decode cX8_sureOf 34 = .ok (.iload 5, 2) := by decide +kernel
theorem dX8_sureOf_36 : decode cX8_sureOf 36 = .ok (.iconst (-1), 1) := by decide +kernel
theorem dX8_sureOf_37 : decode cX8_sureOf 37 = .ok (.ixor, 1) := by decide +kernel
theorem dX8_sureOf_38 : decode cX8_sureOf 38 = .ok (.iand, 1) := by decide +kernel
theorem dX8_sureOf_39 : decode cX8_sureOf 39 = .ok (.ifCond .ne 29, 3) := by decide +kernel
theorem dX8_sureOf_42 : decode cX8_sureOf 42 = .ok (.iload_n 2, 1) := by decide +kernel
theorem dX8_sureOf_43 : decode cX8_sureOf 43 = .ok (.iload 5, 2) := by decide +kernel
theorem dX8_sureOf_45 : decode cX8_sureOf 45 = .ok (.iand, 1) := by decide +kernel
theorem dX8_sureOf_46 : decode cX8_sureOf 46 = .ok (.ifCond .ne 22, 3) := by decide +kernel
theorem dX8_sureOf_49 : decode cX8_sureOf 49 = .ok (.iload 4, 2) := by decide +kernel
theorem dX8_sureOf_51 : decode cX8_sureOf 51 = .ok (.bipush 14, 2) := by decide +kernel
theorem dX8_sureOf_53 : decode cX8_sureOf 53 = .ok (.if_icmp .ge 12, 3) := by decide +kernel
theorem dX8_sureOf_56 : decode cX8_sureOf 56 = .ok (.aload_n 0, 1) := by decide +kernel
theorem dX8_sureOf_57 : decode cX8_sureOf 57 = .ok (.getfield 61, 3) := by decide +kernel
theorem dX8_sureOf_60 : decode cX8_sureOf 60 = .ok (.iload 4, 2) := by decide +kernel
theorem dX8_sureOf_62 : decode cX8_sureOf 62 = .ok (.iload 5, 2) := by decide +kernel
theorem dX8_sureOf_64 : decode cX8_sureOf 64 = .ok (.iastore, 1) := by decide +kernel
theorem dX8_sureOf_65 : decode cX8_sureOf 65 = .ok (.iinc 4 1, 3) := by decide +kernel
theorem dX8_sureOf_68 : decode cX8_sureOf 68 = .ok (.iinc 5 1, 3) := by decide +kernel
theorem dX8_sureOf_71 : decode cX8_sureOf 71 = .ok (.goto (-61), 3) := by decide +kernel
theorem dX8_sureOf_74 : decode cX8_sureOf 74 = .ok (.iload 4, 2) := by decide +kernel
theorem dX8_sureOf_76 : decode cX8_sureOf 76 = .ok (.ifCond .ne 6, 3) := by decide +kernel
theorem dX8_sureOf_79 : decode cX8_sureOf 79 = .ok (.bipush (-3), 2) := by decide +kernel
theorem dX8_sureOf_81 : decode cX8_sureOf 81 = .ok (.ireturn, 1) := by decide +kernel
theorem dX8_sureOf_82 : decode cX8_sureOf 82 = .ok (.iload 4, 2) := by decide +kernel
theorem dX8_sureOf_84 : decode cX8_sureOf 84 = .ok (.bipush 14, 2) := by decide +kernel
theorem dX8_sureOf_86 : decode cX8_sureOf 86 = .ok (.if_icmp .le 6, 3) := by decide +kernel
theorem dX8_sureOf_89 : decode cX8_sureOf 89 = .ok (.bipush (-4), 2) := by decide +kernel
theorem dX8_sureOf_91 : decode cX8_sureOf 91 = .ok (.ireturn, 1) := by decide +kernel
theorem dX8_sureOf_92 : decode cX8_sureOf 92 = .ok (.iconst 0, 1) := by decide +kernel
theorem dX8_sureOf_93 : decode cX8_sureOf 93 = .ok (.istore 5, 2) := by decide +kernel
theorem dX8_sureOf_95 : decode cX8_sureOf 95 = .ok (.iload 5, 2) := by decide +kernel
theorem dX8_sureOf_97 : decode cX8_sureOf 97 = .ok (.aload_n 0, 1) := by decide +kernel
theorem dX8_sureOf_98 : decode cX8_sureOf 98 = .ok (.invokevirtual 111, 3) := by decide +kernel
theorem dX8_sureOf_101 : decode cX8_sureOf 101 = .ok (.if_icmp .ge 66, 3) := by decide +kernel
theorem dX8_sureOf_104 : decode cX8_sureOf 104 = .ok (.aload_n 0, 1) := by decide +kernel
theorem dX8_sureOf_105 : decode cX8_sureOf 105 = .ok (.getfield 64, 3) := by decide +kernel
theorem dX8_sureOf_108 : decode cX8_sureOf 108 = .ok (.iload 5, 2) := by decide +kernel
theorem dX8_sureOf_110 : decode cX8_sureOf 110 = .ok (.iconst 0, 1) := by decide +kernel
theorem dX8_sureOf_111 : decode cX8_sureOf 111 = .ok (.iastore, 1) := by decide +kernel
theorem dX8_sureOf_112 : decode cX8_sureOf 112 = .ok (.iconst 0, 1) := by decide +kernel
theorem dX8_sureOf_113 : decode cX8_sureOf 113 = .ok (.istore 6, 2) := by decide +kernel
theorem dX8_sureOf_115 : decode cX8_sureOf 115 = .ok (.iload 6, 2) := by decide +kernel
theorem dX8_sureOf_117 : decode cX8_sureOf 117 = .ok (.iload 4, 2) := by decide +kernel
theorem dX8_sureOf_119 : decode cX8_sureOf 119 = .ok (.if_icmp .ge 42, 3) := by decide +kernel
theorem dX8_sureOf_122 : decode cX8_sureOf 122 = .ok (.aload_n 0, 1) := by decide +kernel
theorem dX8_sureOf_123 : decode cX8_sureOf 123 = .ok (.getfield 64, 3) := by decide +kernel
theorem dX8_sureOf_126 : decode cX8_sureOf 126 = .ok (.iload 5, 2) := by decide +kernel
theorem dX8_sureOf_128 : decode cX8_sureOf 128 = .ok (.dup2, 1) := by decide +kernel
theorem dX8_sureOf_129 : decode cX8_sureOf 129 = .ok (.iaload, 1) := by decide +kernel
theorem dX8_sureOf_130 : decode cX8_sureOf 130 = .ok (.aload_n 0, 1) := by decide +kernel
theorem dX8_sureOf_131 : decode cX8_sureOf 131 = .ok (.getfield 61, 3) := by decide +kernel
theorem dX8_sureOf_134 : decode cX8_sureOf 134 = .ok (.iload 6, 2) := by decide +kernel
theorem dX8_sureOf_136 : decode cX8_sureOf 136 = .ok (.iaload, 1) := by decide +kernel
theorem dX8_sureOf_137 : decode cX8_sureOf 137 = .ok (.iload 5, 2) := by decide +kernel
theorem dX8_sureOf_139 : decode cX8_sureOf 139 = .ok (.invokestatic 153, 3) := by decide +kernel
theorem dX8_sureOf_142 : decode cX8_sureOf 142 = .ok (.ifCond .eq 10, 3) := by decide +kernel
theorem dX8_sureOf_145 : decode cX8_sureOf 145 = .ok (.iconst 1, 1) := by decide +kernel
theorem dX8_sureOf_146 : decode cX8_sureOf 146 = .ok (.iload 6, 2) := by decide +kernel
theorem dX8_sureOf_148 : decode cX8_sureOf 148 = .ok (.ishl, 1) := by decide +kernel
theorem dX8_sureOf_149 : decode cX8_sureOf 149 = .ok (.goto 4, 3) := by decide +kernel
theorem dX8_sureOf_152 : decode cX8_sureOf 152 = .ok (.iconst 0, 1) := by decide +kernel
theorem dX8_sureOf_153 : decode cX8_sureOf 153 = .ok (.ior, 1) := by decide +kernel
theorem dX8_sureOf_154 : decode cX8_sureOf 154 = .ok (.iastore, 1) := by decide +kernel
theorem dX8_sureOf_155 : decode cX8_sureOf 155 = .ok (.iinc 6 1, 3) := by decide +kernel
theorem dX8_sureOf_158 : decode cX8_sureOf 158 = .ok (.goto (-43), 3) := by decide +kernel
theorem dX8_sureOf_161 : decode cX8_sureOf 161 = .ok (.iinc 5 1, 3) := by decide +kernel
theorem dX8_sureOf_164 : decode cX8_sureOf 164 = .ok (.goto (-69), 3) := by decide +kernel
theorem dX8_sureOf_167 : decode cX8_sureOf 167 = .ok (.iconst 1, 1) := by decide +kernel
theorem dX8_sureOf_168 : decode cX8_sureOf 168 = .ok (.iload 4, 2) := by decide +kernel
theorem dX8_sureOf_170 : decode cX8_sureOf 170 = .ok (.ishl, 1) := by decide +kernel
theorem dX8_sureOf_171 : decode cX8_sureOf 171 = .ok (.iconst 1, 1) := by decide +kernel
theorem dX8_sureOf_172 : decode cX8_sureOf 172 = .ok (.isub, 1) := by decide +kernel
theorem dX8_sureOf_173 : decode cX8_sureOf 173 = .ok (.istore 5, 2) := by decide +kernel
theorem dX8_sureOf_175 : decode cX8_sureOf 175 = .ok (.iconst 1, 1) := by decide +kernel
theorem dX8_sureOf_176 : decode cX8_sureOf 176 = .ok (.istore 6, 2) := by decide +kernel
theorem dX8_sureOf_178 : decode cX8_sureOf 178 = .ok (.iload 6, 2) := by decide +kernel
theorem dX8_sureOf_180 : decode cX8_sureOf 180 = .ok (.iload 5, 2) := by decide +kernel
theorem dX8_sureOf_182 : decode cX8_sureOf 182 = .ok (.if_icmp .gt 102, 3) := by decide +kernel
theorem dX8_sureOf_185 : decode cX8_sureOf 185 = .ok (.aload_n 0, 1) := by decide +kernel
theorem dX8_sureOf_186 : decode cX8_sureOf 186 = .ok (.getfield 67, 3) := by decide +kernel
theorem dX8_sureOf_189 : decode cX8_sureOf 189 = .ok (.iload 6, 2) := by decide +kernel
theorem dX8_sureOf_191 : decode cX8_sureOf 191 = .ok (.iload 6, 2) := by decide +kernel
theorem dX8_sureOf_193 : decode cX8_sureOf 193 = .ok (.iload 6, 2) := by decide +kernel
theorem dX8_sureOf_195 : decode cX8_sureOf 195 = .ok (.iconst 1, 1) := by decide +kernel
theorem dX8_sureOf_196 : decode cX8_sureOf 196 = .ok (.isub, 1) := by decide +kernel
theorem dX8_sureOf_197 : decode cX8_sureOf 197 = .ok (.iand, 1) := by decide +kernel
theorem dX8_sureOf_198 : decode cX8_sureOf 198 = .ok (.ifCond .ne 7, 3) := by decide +kernel
theorem dX8_sureOf_201 : decode cX8_sureOf 201 = .ok (.iconst 0, 1) := by decide +kernel
theorem dX8_sureOf_202 : decode cX8_sureOf 202 = .ok (.goto 6, 3) := by decide +kernel
theorem dX8_sureOf_205 : decode cX8_sureOf 205 = .ok (.sipush 10000, 3) := by decide +kernel
theorem dX8_sureOf_208 : decode cX8_sureOf 208 = .ok (.iastore, 1) := by decide +kernel
theorem dX8_sureOf_209 : decode cX8_sureOf 209 = .ok (.iconst 0, 1) := by decide +kernel
theorem dX8_sureOf_210 : decode cX8_sureOf 210 = .ok (.istore 7, 2) := by decide +kernel
theorem dX8_sureOf_212 : decode cX8_sureOf 212 = .ok (.iload 7, 2) := by decide +kernel
theorem dX8_sureOf_214 : decode cX8_sureOf 214 = .ok (.aload_n 0, 1) := by decide +kernel
theorem dX8_sureOf_215 : decode cX8_sureOf 215 = .ok (.invokevirtual 111, 3) := by decide +kernel
theorem dX8_sureOf_218 : decode cX8_sureOf 218 = .ok (.if_icmp .ge 60, 3) := by decide +kernel
end
section
theorem dX8_sureOf_221 : decode cX8_sureOf 221 = .ok (.aload_n 0, 1) := by decide +kernel
theorem dX8_sureOf_222 : decode cX8_sureOf 222 = .ok (.getfield 67, 3) := by decide +kernel
theorem dX8_sureOf_225 : decode cX8_sureOf 225 = .ok (.iload 6, 2) := by decide +kernel
theorem dX8_sureOf_227 : decode cX8_sureOf 227 = .ok (.iaload, 1) := by decide +kernel
theorem dX8_sureOf_228 : decode cX8_sureOf 228 = .ok (.ifCond .le 50, 3) := by decide +kernel
theorem dX8_sureOf_231 : decode cX8_sureOf 231 = .ok (.aload_n 0, 1) := by decide +kernel
theorem dX8_sureOf_232 : decode cX8_sureOf 232 = .ok (.iload 7, 2) := by decide +kernel
theorem dX8_sureOf_234 : decode cX8_sureOf 234 = .ok (.iload 6, 2) := by decide +kernel
theorem dX8_sureOf_236 : decode cX8_sureOf 236 = .ok (.invokevirtual 276, 3) := by decide +kernel
theorem dX8_sureOf_239 : decode cX8_sureOf 239 = .ok (.istore 8, 2) := by decide +kernel
theorem dX8_sureOf_241 : decode cX8_sureOf 241 = .ok (.aload_n 0, 1) := by decide +kernel
theorem dX8_sureOf_242 : decode cX8_sureOf 242 = .ok (.getfield 67, 3) := by decide +kernel
theorem dX8_sureOf_245 : decode cX8_sureOf 245 = .ok (.iload 6, 2) := by decide +kernel
theorem dX8_sureOf_247 : decode cX8_sureOf 247 = .ok (.iload 8, 2) := by decide +kernel
theorem dX8_sureOf_249 : decode cX8_sureOf 249 = .ok (.aload_n 0, 1) := by decide +kernel
theorem dX8_sureOf_250 : decode cX8_sureOf 250 = .ok (.getfield 67, 3) := by decide +kernel
theorem dX8_sureOf_253 : decode cX8_sureOf 253 = .ok (.iload 6, 2) := by decide +kernel
theorem dX8_sureOf_255 : decode cX8_sureOf 255 = .ok (.iaload, 1) := by decide +kernel
theorem dX8_sureOf_256 : decode cX8_sureOf 256 = .ok (.if_icmp .ge 8, 3) := by decide +kernel
theorem dX8_sureOf_259 : decode cX8_sureOf 259 = .ok (.iload 8, 2) := by decide +kernel
theorem dX8_sureOf_261 : decode cX8_sureOf 261 = .ok (.goto 10, 3) := by decide +kernel
theorem dX8_sureOf_264 : decode cX8_sureOf 264 = .ok (.aload_n 0, 1) := by decide +kernel
theorem dX8_sureOf_265 : decode cX8_sureOf 265 = .ok (.getfield 67, 3) := by decide +kernel
theorem dX8_sureOf_268 : decode cX8_sureOf 268 = .ok (.iload 6, 2) := by decide +kernel
theorem dX8_sureOf_270 : decode cX8_sureOf 270 = .ok (.iaload, 1) := by decide +kernel
theorem dX8_sureOf_271 : decode cX8_sureOf 271 = .ok (.iastore, 1) := by decide +kernel
theorem dX8_sureOf_272 : decode cX8_sureOf 272 = .ok (.iinc 7 1, 3) := by decide +kernel
theorem dX8_sureOf_275 : decode cX8_sureOf 275 = .ok (.goto (-63), 3) := by decide +kernel
theorem dX8_sureOf_278 : decode cX8_sureOf 278 = .ok (.iinc 6 1, 3) := by decide +kernel
theorem dX8_sureOf_281 : decode cX8_sureOf 281 = .ok (.goto (-103), 3) := by decide +kernel
theorem dX8_sureOf_284 : decode cX8_sureOf 284 = .ok (.iload_n 3, 1) := by decide +kernel
theorem dX8_sureOf_285 : decode cX8_sureOf 285 = .ok (.ifCond .ne 11, 3) := by decide +kernel
theorem dX8_sureOf_288 : decode cX8_sureOf 288 = .ok (.aload_n 0, 1) := by decide +kernel
theorem dX8_sureOf_289 : decode cX8_sureOf 289 = .ok (.getfield 67, 3) := by decide +kernel
theorem dX8_sureOf_292 : decode cX8_sureOf 292 = .ok (.iload 5, 2) := by decide +kernel
theorem dX8_sureOf_294 : decode cX8_sureOf 294 = .ok (.iaload, 1) := by decide +kernel
theorem dX8_sureOf_295 : decode cX8_sureOf 295 = .ok (.ireturn, 1) := by decide +kernel
theorem dX8_sureOf_296 : decode cX8_sureOf 296 = .ok (.iconst 0, 1) := by decide +kernel
theorem dX8_sureOf_297 : decode cX8_sureOf 297 = .ok (.istore 6, 2) := by decide +kernel
theorem dX8_sureOf_299 : decode cX8_sureOf 299 = .ok (.iload 6, 2) := by decide +kernel
theorem dX8_sureOf_301 : decode cX8_sureOf 301 = .ok (.aload_n 0, 1) := by decide +kernel
theorem dX8_sureOf_302 : decode cX8_sureOf 302 = .ok (.invokevirtual 111, 3) := by decide +kernel
theorem dX8_sureOf_305 : decode cX8_sureOf 305 = .ok (.if_icmp .ge 36, 3) := by decide +kernel
theorem dX8_sureOf_308 : decode cX8_sureOf 308 = .ok (.iload 4, 2) := by decide +kernel
theorem dX8_sureOf_310 : decode cX8_sureOf 310 = .ok (.iconst 1, 1) := by decide +kernel
theorem dX8_sureOf_311 : decode cX8_sureOf 311 = .ok (.if_icmp .le 30, 3) := by decide +kernel
theorem dX8_sureOf_314 : decode cX8_sureOf 314 = .ok (.aload_n 0, 1) := by decide +kernel
theorem dX8_sureOf_315 : decode cX8_sureOf 315 = .ok (.iload 6, 2) := by decide +kernel
theorem dX8_sureOf_317 : decode cX8_sureOf 317 = .ok (.iload 5, 2) := by decide +kernel
theorem dX8_sureOf_319 : decode cX8_sureOf 319 = .ok (.invokevirtual 276, 3) := by decide +kernel
theorem dX8_sureOf_322 : decode cX8_sureOf 322 = .ok (.aload_n 0, 1) := by decide +kernel
theorem dX8_sureOf_323 : decode cX8_sureOf 323 = .ok (.getfield 67, 3) := by decide +kernel
theorem dX8_sureOf_326 : decode cX8_sureOf 326 = .ok (.iload 5, 2) := by decide +kernel
theorem dX8_sureOf_328 : decode cX8_sureOf 328 = .ok (.iaload, 1) := by decide +kernel
theorem dX8_sureOf_329 : decode cX8_sureOf 329 = .ok (.if_icmp .ne 6, 3) := by decide +kernel
theorem dX8_sureOf_332 : decode cX8_sureOf 332 = .ok (.iload 6, 2) := by decide +kernel
theorem dX8_sureOf_334 : decode cX8_sureOf 334 = .ok (.ireturn, 1) := by decide +kernel
theorem dX8_sureOf_335 : decode cX8_sureOf 335 = .ok (.iinc 6 1, 3) := by decide +kernel
theorem dX8_sureOf_338 : decode cX8_sureOf 338 = .ok (.goto (-39), 3) := by decide +kernel
theorem dX8_sureOf_341 : decode cX8_sureOf 341 = .ok (.iconst (-1), 1) := by decide +kernel
theorem dX8_sureOf_342 : decode cX8_sureOf 342 = .ok (.ireturn, 1) := by decide +kernel
theorem dX8_sure_0 : decode cX8_sure 0 = .ok (.iload_n 1, 1) := by decide +kernel
theorem dX8_sure_1 : decode cX8_sure 1 = .ok (.i2l, 1) := by decide +kernel
theorem dX8_sure_2 : decode cX8_sure 2 = .ok (.lconst 0, 1) := by decide +kernel
theorem dX8_sure_3 : decode cX8_sure 3 = .ok (.ldc2_w 195, 3) := by decide +kernel
theorem dX8_sure_6 : decode cX8_sure 6 = .ok (.invokestatic 78, 3) := by decide +kernel
theorem dX8_sure_9 : decode cX8_sure 9 = .ok (.ifCond .eq 32, 3) := by decide +kernel
theorem dX8_sure_12 : decode cX8_sure 12 = .ok (.iload_n 2, 1) := by decide +kernel
theorem dX8_sure_13 : decode cX8_sure 13 = .ok (.i2l, 1) := by decide +kernel
theorem dX8_sure_14 : decode cX8_sure 14 = .ok (.lconst 0, 1) := by decide +kernel
theorem dX8_sure_15 : decode cX8_sure 15 = .ok (.ldc2_w 195, 3) := by decide +kernel
theorem dX8_sure_18 : decode cX8_sure 18 = .ok (.invokestatic 78, 3) := by decide +kernel
theorem dX8_sure_21 : decode cX8_sure 21 = .ok (.ifCond .eq 20, 3) := by decide +kernel
theorem dX8_sure_24 : decode cX8_sure 24 = .ok (.iload_n 3, 1) := by decide +kernel
theorem dX8_sure_25 : decode cX8_sure 25 = .ok (.invokestatic 179, 3) := by decide +kernel
theorem dX8_sure_28 : decode cX8_sure 28 = .ok (.ifCond .eq 13, 3) := by decide +kernel
theorem dX8_sure_31 : decode cX8_sure 31 = .ok (.aload_n 0, 1) := by decide +kernel
theorem dX8_sure_32 : decode cX8_sure 32 = .ok (.iload_n 1, 1) := by decide +kernel
theorem dX8_sure_33 : decode cX8_sure 33 = .ok (.iload_n 2, 1) := by decide +kernel
theorem dX8_sure_34 : decode cX8_sure 34 = .ok (.iload_n 3, 1) := by decide +kernel
theorem dX8_sure_35 : decode cX8_sure 35 = .ok (.invokevirtual 279, 3) := by decide +kernel
theorem dX8_sure_38 : decode cX8_sure 38 = .ok (.goto 5, 3) := by decide +kernel
theorem dX8_sure_41 : decode cX8_sure 41 = .ok (.bipush (-2), 2) := by decide +kernel
theorem dX8_sure_43 : decode cX8_sure 43 = .ok (.ireturn, 1) := by decide +kernel
theorem dX8_chanceAbove_0 : decode cX8_chanceAbove 0 = .ok (.lconst 1, 1) := by decide +kernel
theorem dX8_chanceAbove_1 : decode cX8_chanceAbove 1 = .ok (.lstore 5, 2) := by decide +kernel
theorem dX8_chanceAbove_3 : decode cX8_chanceAbove 3 = .ok (.iconst 0, 1) := by decide +kernel
theorem dX8_chanceAbove_4 : decode cX8_chanceAbove 4 = .ok (.istore 7, 2) := by decide +kernel
theorem dX8_chanceAbove_6 : decode cX8_chanceAbove 6 = .ok (.iload 7, 2) := by decide +kernel
theorem dX8_chanceAbove_8 : decode cX8_chanceAbove 8 = .ok (.aload_n 0, 1) := by decide +kernel
theorem dX8_chanceAbove_9 : decode cX8_chanceAbove 9 = .ok (.invokevirtual 111, 3) := by decide +kernel
theorem dX8_chanceAbove_12 : decode cX8_chanceAbove 12 = .ok (.if_icmp .ge 72, 3) := by decide +kernel
theorem dX8_chanceAbove_15 : decode cX8_chanceAbove 15 = .ok (.aload_n 0, 1) := by decide +kernel
theorem dX8_chanceAbove_16 : decode cX8_chanceAbove 16 = .ok (.getfield 37, 3) := by decide +kernel
theorem dX8_chanceAbove_19 : decode cX8_chanceAbove 19 = .ok (.bipush 7, 2) := by decide +kernel
theorem dX8_chanceAbove_21 : decode cX8_chanceAbove 21 = .ok (.iload_n 1, 1) := by decide +kernel
theorem dX8_chanceAbove_22 : decode cX8_chanceAbove 22 = .ok (.imul, 1) := by decide +kernel
theorem dX8_chanceAbove_23 : decode cX8_chanceAbove 23 = .ok (.iload 7, 2) := by decide +kernel
theorem dX8_chanceAbove_25 : decode cX8_chanceAbove 25 = .ok (.iadd, 1) := by decide +kernel
theorem dX8_chanceAbove_26 : decode cX8_chanceAbove 26 = .ok (.iaload, 1) := by decide +kernel
theorem dX8_chanceAbove_27 : decode cX8_chanceAbove 27 = .ok (.istore 8, 2) := by decide +kernel
theorem dX8_chanceAbove_29 : decode cX8_chanceAbove 29 = .ok (.iload 8, 2) := by decide +kernel
theorem dX8_chanceAbove_31 : decode cX8_chanceAbove 31 = .ok (.iconst 2, 1) := by decide +kernel
theorem dX8_chanceAbove_32 : decode cX8_chanceAbove 32 = .ok (.if_icmp .eq 46, 3) := by decide +kernel
theorem dX8_chanceAbove_35 : decode cX8_chanceAbove 35 = .ok (.iload_n 2, 1) := by decide +kernel
theorem dX8_chanceAbove_36 : decode cX8_chanceAbove 36 = .ok (.iload 7, 2) := by decide +kernel
theorem dX8_chanceAbove_38 : decode cX8_chanceAbove 38 = .ok (.invokestatic 153, 3) := by decide +kernel
theorem dX8_chanceAbove_41 : decode cX8_chanceAbove 41 = .ok (.ifCond .eq 10, 3) := by decide +kernel
theorem dX8_chanceAbove_44 : decode cX8_chanceAbove 44 = .ok (.bipush 16, 2) := by decide +kernel
theorem dX8_chanceAbove_46 : decode cX8_chanceAbove 46 = .ok (.iload_n 3, 1) := by decide +kernel
theorem dX8_chanceAbove_47 : decode cX8_chanceAbove 47 = .ok (.isub, 1) := by decide +kernel
theorem dX8_chanceAbove_48 : decode cX8_chanceAbove 48 = .ok (.goto 5, 3) := by decide +kernel
theorem dX8_chanceAbove_51 : decode cX8_chanceAbove 51 = .ok (.iload 4, 2) := by decide +kernel
theorem dX8_chanceAbove_53 : decode cX8_chanceAbove 53 = .ok (.istore 9, 2) := by decide +kernel
theorem dX8_chanceAbove_55 : decode cX8_chanceAbove 55 = .ok (.lload 5, 2) := by decide +kernel
theorem dX8_chanceAbove_57 : decode cX8_chanceAbove 57 = .ok (.iload 8, 2) := by decide +kernel
theorem dX8_chanceAbove_59 : decode cX8_chanceAbove 59 = .ok (.iconst 1, 1) := by decide +kernel
theorem dX8_chanceAbove_60 : decode cX8_chanceAbove 60 = .ok (.if_icmp .ne 9, 3) := by decide +kernel
theorem dX8_chanceAbove_63 : decode cX8_chanceAbove 63 = .ok (.iload 9, 2) := by decide +kernel
theorem dX8_chanceAbove_65 : decode cX8_chanceAbove 65 = .ok (.i2l, 1) := by decide +kernel
theorem dX8_chanceAbove_66 : decode cX8_chanceAbove 66 = .ok (.goto 9, 3) := by decide +kernel
theorem dX8_chanceAbove_69 : decode cX8_chanceAbove 69 = .ok (.bipush 16, 2) := by decide +kernel
theorem dX8_chanceAbove_71 : decode cX8_chanceAbove 71 = .ok (.iload 9, 2) := by decide +kernel
theorem dX8_chanceAbove_73 : decode cX8_chanceAbove 73 = .ok (.isub, 1) := by decide +kernel
theorem dX8_chanceAbove_74 : decode cX8_chanceAbove 74 = .ok (.i2l, 1) := by decide +kernel
theorem dX8_chanceAbove_75 : decode cX8_chanceAbove 75 = .ok (.lmul, 1) := by decide +kernel
theorem dX8_chanceAbove_76 : decode cX8_chanceAbove 76 = .ok (.lstore 5, 2) := by decide +kernel
theorem dX8_chanceAbove_78 : decode cX8_chanceAbove 78 = .ok (.iinc 7 1, 3) := by decide +kernel
theorem dX8_chanceAbove_81 : decode cX8_chanceAbove 81 = .ok (.goto (-75), 3) := by decide +kernel
theorem dX8_chanceAbove_84 : decode cX8_chanceAbove 84 = .ok (.lload 5, 2) := by decide +kernel
theorem dX8_chanceAbove_86 : decode cX8_chanceAbove 86 = .ok (.lreturn, 1) := by decide +kernel
theorem dX8_areLots_0 : decode cX8_areLots 0 = .ok (.iload_n 0, 1) := by decide +kernel
theorem dX8_areLots_1 : decode cX8_areLots 1 = .ok (.i2l, 1) := by decide +kernel
theorem dX8_areLots_2 : decode cX8_areLots 2 = .ok (.lconst 0, 1) := by decide +kernel
theorem dX8_areLots_3 : decode cX8_areLots 3 = .ok (.ldc2_w 282, 3) := by decide +kernel
theorem dX8_areLots_6 : decode cX8_areLots 6 = .ok (.invokestatic 78, 3) := by decide +kernel
theorem dX8_areLots_9 : decode cX8_areLots 9 = .ok (.ifCond .eq 19, 3) := by decide +kernel
theorem dX8_areLots_12 : decode cX8_areLots 12 = .ok (.iload_n 1, 1) := by decide +kernel
theorem dX8_areLots_13 : decode cX8_areLots 13 = .ok (.i2l, 1) := by decide +kernel
theorem dX8_areLots_14 : decode cX8_areLots 14 = .ok (.lconst 0, 1) := by decide +kernel
theorem dX8_areLots_15 : decode cX8_areLots 15 = .ok (.ldc2_w 282, 3) := by decide +kernel
theorem dX8_areLots_18 : decode cX8_areLots 18 = .ok (.invokestatic 78, 3) := by decide +kernel
theorem dX8_areLots_21 : decode cX8_areLots 21 = .ok (.ifCond .eq 7, 3) := by decide +kernel
theorem dX8_areLots_24 : decode cX8_areLots 24 = .ok (.iconst 1, 1) := by decide +kernel
theorem dX8_areLots_25 : decode cX8_areLots 25 = .ok (.goto 4, 3) := by decide +kernel
theorem dX8_areLots_28 : decode cX8_areLots 28 = .ok (.iconst 0, 1) := by decide +kernel
theorem dX8_areLots_29 : decode cX8_areLots 29 = .ok (.ireturn, 1) := by decide +kernel
theorem dX8_chance_0 : decode cX8_chance 0 = .ok (.iload_n 1, 1) := by decide +kernel
theorem dX8_chance_1 : decode cX8_chance 1 = .ok (.invokestatic 123, 3) := by decide +kernel
theorem dX8_chance_4 : decode cX8_chance 4 = .ok (.ifCond .eq 32, 3) := by decide +kernel
theorem dX8_chance_7 : decode cX8_chance 7 = .ok (.iload_n 2, 1) := by decide +kernel
theorem dX8_chance_8 : decode cX8_chance 8 = .ok (.i2l, 1) := by decide +kernel
theorem dX8_chance_9 : decode cX8_chance 9 = .ok (.lconst 0, 1) := by decide +kernel
theorem dX8_chance_10 : decode cX8_chance 10 = .ok (.ldc2_w 195, 3) := by decide +kernel
theorem dX8_chance_13 : decode cX8_chance 13 = .ok (.invokestatic 78, 3) := by decide +kernel
theorem dX8_chance_16 : decode cX8_chance 16 = .ok (.ifCond .eq 20, 3) := by decide +kernel
theorem dX8_chance_19 : decode cX8_chance 19 = .ok (.iload_n 3, 1) := by decide +kernel
theorem dX8_chance_20 : decode cX8_chance 20 = .ok (.iload 4, 2) := by decide +kernel
theorem dX8_chance_22 : decode cX8_chance 22 = .ok (.invokestatic 284, 3) := by decide +kernel
theorem dX8_chance_25 : decode cX8_chance 25 = .ok (.ifCond .eq 11, 3) := by decide +kernel
theorem dX8_chance_28 : decode cX8_chance 28 = .ok (.iload 5, 2) := by decide +kernel
theorem dX8_chance_30 : decode cX8_chance 30 = .ok (.invokestatic 179, 3) := by decide +kernel
theorem dX8_chance_33 : decode cX8_chance 33 = .ok (.ifCond .ne 9, 3) := by decide +kernel
theorem dX8_chance_36 : decode cX8_chance 36 = .ok (.bipush (-2), 2) := by decide +kernel
theorem dX8_chance_38 : decode cX8_chance 38 = .ok (.invokestatic 234, 3) := by decide +kernel
theorem dX8_chance_41 : decode cX8_chance 41 = .ok (.lreturn, 1) := by decide +kernel
theorem dX8_chance_42 : decode cX8_chance 42 = .ok (.aload_n 0, 1) := by decide +kernel
theorem dX8_chance_43 : decode cX8_chance 43 = .ok (.invokevirtual 136, 3) := by decide +kernel
theorem dX8_chance_46 : decode cX8_chance 46 = .ok (.lconst 1, 1) := by decide +kernel
theorem dX8_chance_47 : decode cX8_chance 47 = .ok (.lstore 6, 2) := by decide +kernel
theorem dX8_chance_49 : decode cX8_chance 49 = .ok (.iconst 0, 1) := by decide +kernel
theorem dX8_chance_50 : decode cX8_chance 50 = .ok (.istore 8, 2) := by decide +kernel
theorem dX8_chance_52 : decode cX8_chance 52 = .ok (.iload 8, 2) := by decide +kernel
theorem dX8_chance_54 : decode cX8_chance 54 = .ok (.aload_n 0, 1) := by decide +kernel
theorem dX8_chance_55 : decode cX8_chance 55 = .ok (.invokevirtual 111, 3) := by decide +kernel
theorem dX8_chance_58 : decode cX8_chance 58 = .ok (.if_icmp .ge 37, 3) := by decide +kernel
theorem dX8_chance_61 : decode cX8_chance 61 = .ok (.lload 6, 2) := by decide +kernel
theorem dX8_chance_63 : decode cX8_chance 63 = .ok (.aload_n 0, 1) := by decide +kernel
theorem dX8_chance_64 : decode cX8_chance 64 = .ok (.getfield 37, 3) := by decide +kernel
theorem dX8_chance_67 : decode cX8_chance 67 = .ok (.bipush 7, 2) := by decide +kernel
theorem dX8_chance_69 : decode cX8_chance 69 = .ok (.iload_n 1, 1) := by decide +kernel
theorem dX8_chance_70 : decode cX8_chance 70 = .ok (.imul, 1) := by decide +kernel
theorem dX8_chance_71 : decode cX8_chance 71 = .ok (.iload 8, 2) := by decide +kernel
theorem dX8_chance_73 : decode cX8_chance 73 = .ok (.iadd, 1) := by decide +kernel
theorem dX8_chance_74 : decode cX8_chance 74 = .ok (.iaload, 1) := by decide +kernel
theorem dX8_chance_75 : decode cX8_chance 75 = .ok (.iconst 2, 1) := by decide +kernel
theorem dX8_chance_76 : decode cX8_chance 76 = .ok (.if_icmp .ne 7, 3) := by decide +kernel
theorem dX8_chance_79 : decode cX8_chance 79 = .ok (.lconst 1, 1) := by decide +kernel
theorem dX8_chance_80 : decode cX8_chance 80 = .ok (.goto 6, 3) := by decide +kernel
theorem dX8_chance_83 : decode cX8_chance 83 = .ok (.ldc2_w 282, 3) := by decide +kernel
theorem dX8_chance_86 : decode cX8_chance 86 = .ok (.lmul, 1) := by decide +kernel
theorem dX8_chance_87 : decode cX8_chance 87 = .ok (.lstore 6, 2) := by decide +kernel
theorem dX8_chance_89 : decode cX8_chance 89 = .ok (.iinc 8 1, 3) := by decide +kernel
theorem dX8_chance_92 : decode cX8_chance 92 = .ok (.goto (-40), 3) := by decide +kernel
theorem dX8_chance_95 : decode cX8_chance 95 = .ok (.aload_n 0, 1) := by decide +kernel
theorem dX8_chance_96 : decode cX8_chance 96 = .ok (.iload_n 1, 1) := by decide +kernel
theorem dX8_chance_97 : decode cX8_chance 97 = .ok (.iload_n 2, 1) := by decide +kernel
theorem dX8_chance_98 : decode cX8_chance 98 = .ok (.iload_n 3, 1) := by decide +kernel
theorem dX8_chance_99 : decode cX8_chance 99 = .ok (.iload 4, 2) := by decide +kernel
theorem dX8_chance_101 : decode cX8_chance 101 = .ok (.invokevirtual 287, 3) := by decide +kernel
theorem dX8_chance_104 : decode cX8_chance 104 = .ok (.lload 6, 2) := by decide +kernel
theorem dX8_chance_106 : decode cX8_chance 106 = .ok (.iload 5, 2) := by decide +kernel
theorem dX8_chance_108 : decode cX8_chance 108 = .ok (.invokestatic 241, 3) := by decide +kernel
theorem dX8_chance_111 : decode cX8_chance 111 = .ok (.lreturn, 1) := by decide +kernel
theorem dX8_share_0 : decode cX8_share 0 = .ok (.iload_n 1, 1) := by decide +kernel
theorem dX8_share_1 : decode cX8_share 1 = .ok (.invokestatic 123, 3) := by decide +kernel
theorem dX8_share_4 : decode cX8_share 4 = .ok (.ifCond .eq 32, 3) := by decide +kernel
theorem dX8_share_7 : decode cX8_share 7 = .ok (.iload_n 2, 1) := by decide +kernel
theorem dX8_share_8 : decode cX8_share 8 = .ok (.i2l, 1) := by decide +kernel
theorem dX8_share_9 : decode cX8_share 9 = .ok (.lconst 0, 1) := by decide +kernel
theorem dX8_share_10 : decode cX8_share 10 = .ok (.ldc2_w 195, 3) := by decide +kernel
theorem dX8_share_13 : decode cX8_share 13 = .ok (.invokestatic 78, 3) := by decide +kernel
theorem dX8_share_16 : decode cX8_share 16 = .ok (.ifCond .eq 20, 3) := by decide +kernel
theorem dX8_share_19 : decode cX8_share 19 = .ok (.iload_n 3, 1) := by decide +kernel
theorem dX8_share_20 : decode cX8_share 20 = .ok (.iload 4, 2) := by decide +kernel
theorem dX8_share_22 : decode cX8_share 22 = .ok (.invokestatic 284, 3) := by decide +kernel
theorem dX8_share_25 : decode cX8_share 25 = .ok (.ifCond .eq 11, 3) := by decide +kernel
theorem dX8_share_28 : decode cX8_share 28 = .ok (.iload 5, 2) := by decide +kernel
theorem dX8_share_30 : decode cX8_share 30 = .ok (.invokestatic 179, 3) := by decide +kernel
theorem dX8_share_33 : decode cX8_share 33 = .ok (.ifCond .ne 9, 3) := by decide +kernel
theorem dX8_share_36 : decode cX8_share 36 = .ok (.bipush (-2), 2) := by decide +kernel
theorem dX8_share_38 : decode cX8_share 38 = .ok (.invokestatic 234, 3) := by decide +kernel
theorem dX8_share_41 : decode cX8_share 41 = .ok (.lreturn, 1) := by decide +kernel
theorem dX8_share_42 : decode cX8_share 42 = .ok (.aload_n 0, 1) := by decide +kernel
theorem dX8_share_43 : decode cX8_share 43 = .ok (.invokevirtual 258, 3) := by decide +kernel
theorem dX8_share_46 : decode cX8_share 46 = .ok (.iload_n 2, 1) := by decide +kernel
theorem dX8_share_47 : decode cX8_share 47 = .ok (.aload_n 0, 1) := by decide +kernel
theorem dX8_share_48 : decode cX8_share 48 = .ok (.invokevirtual 228, 3) := by decide +kernel
theorem dX8_share_51 : decode cX8_share 51 = .ok (.iand, 1) := by decide +kernel
theorem dX8_share_52 : decode cX8_share 52 = .ok (.istore 6, 2) := by decide +kernel
theorem dX8_share_54 : decode cX8_share 54 = .ok (.aload_n 0, 1) := by decide +kernel
theorem dX8_share_55 : decode cX8_share 55 = .ok (.iload 6, 2) := by decide +kernel
theorem dX8_share_57 : decode cX8_share 57 = .ok (.invokevirtual 261, 3) := by decide +kernel
theorem dX8_share_60 : decode cX8_share 60 = .ok (.ifCond .ne 9, 3) := by decide +kernel
theorem dX8_share_63 : decode cX8_share 63 = .ok (.bipush (-2), 2) := by decide +kernel
theorem dX8_share_65 : decode cX8_share 65 = .ok (.invokestatic 234, 3) := by decide +kernel
theorem dX8_share_68 : decode cX8_share 68 = .ok (.lreturn, 1) := by decide +kernel
theorem dX8_share_69 : decode cX8_share 69 = .ok (.lconst 0, 1) := by decide +kernel
theorem dX8_share_70 : decode cX8_share 70 = .ok (.lstore 7, 2) := by decide +kernel
theorem dX8_share_72 : decode cX8_share 72 = .ok (.iconst 0, 1) := by decide +kernel
theorem dX8_share_73 : decode cX8_share 73 = .ok (.istore 9, 2) := by decide +kernel
theorem dX8_share_75 : decode cX8_share 75 = .ok (.iload 9, 2) := by decide +kernel
theorem dX8_share_77 : decode cX8_share 77 = .ok (.aload_n 0, 1) := by decide +kernel
theorem dX8_share_78 : decode cX8_share 78 = .ok (.invokevirtual 228, 3) := by decide +kernel
theorem dX8_share_81 : decode cX8_share 81 = .ok (.if_icmp .gt 37, 3) := by decide +kernel
theorem dX8_share_84 : decode cX8_share 84 = .ok (.lload 7, 2) := by decide +kernel
theorem dX8_share_86 : decode cX8_share 86 = .ok (.aload_n 0, 1) := by decide +kernel
theorem dX8_share_87 : decode cX8_share 87 = .ok (.iload 9, 2) := by decide +kernel
theorem dX8_share_89 : decode cX8_share 89 = .ok (.invokevirtual 261, 3) := by decide +kernel
theorem dX8_share_92 : decode cX8_share 92 = .ok (.ifCond .eq 16, 3) := by decide +kernel
theorem dX8_share_95 : decode cX8_share 95 = .ok (.aload_n 0, 1) := by decide +kernel
theorem dX8_share_96 : decode cX8_share 96 = .ok (.iload_n 1, 1) := by decide +kernel
theorem dX8_share_97 : decode cX8_share 97 = .ok (.iload 9, 2) := by decide +kernel
theorem dX8_share_99 : decode cX8_share 99 = .ok (.iload_n 3, 1) := by decide +kernel
theorem dX8_share_100 : decode cX8_share 100 = .ok (.iload 4, 2) := by decide +kernel
theorem dX8_share_102 : decode cX8_share 102 = .ok (.invokevirtual 287, 3) := by decide +kernel
theorem dX8_share_105 : decode cX8_share 105 = .ok (.goto 4, 3) := by decide +kernel
theorem dX8_share_108 : decode cX8_share 108 = .ok (.lconst 0, 1) := by decide +kernel
theorem dX8_share_109 : decode cX8_share 109 = .ok (.ladd, 1) := by decide +kernel
theorem dX8_share_110 : decode cX8_share 110 = .ok (.lstore 7, 2) := by decide +kernel
theorem dX8_share_112 : decode cX8_share 112 = .ok (.iinc 9 1, 3) := by decide +kernel
theorem dX8_share_115 : decode cX8_share 115 = .ok (.goto (-40), 3) := by decide +kernel
theorem dX8_share_118 : decode cX8_share 118 = .ok (.lload 7, 2) := by decide +kernel
theorem dX8_share_120 : decode cX8_share 120 = .ok (.lconst 0, 1) := by decide +kernel
theorem dX8_share_121 : decode cX8_share 121 = .ok (.lcmp, 1) := by decide +kernel
theorem dX8_share_122 : decode cX8_share 122 = .ok (.ifCond .ne 11, 3) := by decide +kernel
theorem dX8_share_125 : decode cX8_share 125 = .ok (.bipush (-3), 2) := by decide +kernel
theorem dX8_share_127 : decode cX8_share 127 = .ok (.invokestatic 234, 3) := by decide +kernel
theorem dX8_share_130 : decode cX8_share 130 = .ok (.goto 20, 3) := by decide +kernel
theorem dX8_share_133 : decode cX8_share 133 = .ok (.aload_n 0, 1) := by decide +kernel
theorem dX8_share_134 : decode cX8_share 134 = .ok (.iload_n 1, 1) := by decide +kernel
theorem dX8_share_135 : decode cX8_share 135 = .ok (.iload 6, 2) := by decide +kernel
theorem dX8_share_137 : decode cX8_share 137 = .ok (.iload_n 3, 1) := by decide +kernel
theorem dX8_share_138 : decode cX8_share 138 = .ok (.iload 4, 2) := by decide +kernel
theorem dX8_share_140 : decode cX8_share 140 = .ok (.invokevirtual 287, 3) := by decide +kernel
theorem dX8_share_143 : decode cX8_share 143 = .ok (.lload 7, 2) := by decide +kernel
theorem dX8_share_145 : decode cX8_share 145 = .ok (.iload 5, 2) := by decide +kernel
theorem dX8_share_147 : decode cX8_share 147 = .ok (.invokestatic 241, 3) := by decide +kernel
theorem dX8_share_150 : decode cX8_share 150 = .ok (.lreturn, 1) := by decide +kernel
theorem dX8_likeliestOf_0 : decode cX8_likeliestOf 0 = .ok (.aload_n 0, 1) := by decide +kernel
theorem dX8_likeliestOf_1 : decode cX8_likeliestOf 1 = .ok (.invokevirtual 258, 3) := by decide +kernel
theorem dX8_likeliestOf_4 : decode cX8_likeliestOf 4 = .ok (.iconst (-1), 1) := by decide +kernel
theorem dX8_likeliestOf_5 : decode cX8_likeliestOf 5 = .ok (.istore 4, 2) := by decide +kernel
theorem dX8_likeliestOf_7 : decode cX8_likeliestOf 7 = .ok (.ldc2_w 291, 3) := by decide +kernel
theorem dX8_likeliestOf_10 : decode cX8_likeliestOf 10 = .ok (.lstore 5, 2) := by decide +kernel
theorem dX8_likeliestOf_12 : decode cX8_likeliestOf 12 = .ok (.iconst 0, 1) := by decide +kernel
theorem dX8_likeliestOf_13 : decode cX8_likeliestOf 13 = .ok (.istore 7, 2) := by decide +kernel
theorem dX8_likeliestOf_15 : decode cX8_likeliestOf 15 = .ok (.iload 7, 2) := by decide +kernel
theorem dX8_likeliestOf_17 : decode cX8_likeliestOf 17 = .ok (.aload_n 0, 1) := by decide +kernel
theorem dX8_likeliestOf_18 : decode cX8_likeliestOf 18 = .ok (.invokevirtual 228, 3) := by decide +kernel
theorem dX8_likeliestOf_21 : decode cX8_likeliestOf 21 = .ok (.if_icmp .gt 69, 3) := by decide +kernel
theorem dX8_likeliestOf_24 : decode cX8_likeliestOf 24 = .ok (.aload_n 0, 1) := by decide +kernel
theorem dX8_likeliestOf_25 : decode cX8_likeliestOf 25 = .ok (.iload 7, 2) := by decide +kernel
theorem dX8_likeliestOf_27 : decode cX8_likeliestOf 27 = .ok (.invokevirtual 261, 3) := by decide +kernel
theorem dX8_likeliestOf_30 : decode cX8_likeliestOf 30 = .ok (.ifCond .eq 15, 3) := by decide +kernel
theorem dX8_likeliestOf_33 : decode cX8_likeliestOf 33 = .ok (.aload_n 0, 1) := by decide +kernel
theorem dX8_likeliestOf_34 : decode cX8_likeliestOf 34 = .ok (.iload_n 1, 1) := by decide +kernel
theorem dX8_likeliestOf_35 : decode cX8_likeliestOf 35 = .ok (.iload 7, 2) := by decide +kernel
theorem dX8_likeliestOf_37 : decode cX8_likeliestOf 37 = .ok (.iload_n 2, 1) := by decide +kernel
theorem dX8_likeliestOf_38 : decode cX8_likeliestOf 38 = .ok (.iload_n 3, 1) := by decide +kernel
theorem dX8_likeliestOf_39 : decode cX8_likeliestOf 39 = .ok (.invokevirtual 287, 3) := by decide +kernel
theorem dX8_likeliestOf_42 : decode cX8_likeliestOf 42 = .ok (.goto 6, 3) := by decide +kernel
theorem dX8_likeliestOf_45 : decode cX8_likeliestOf 45 = .ok (.ldc2_w 291, 3) := by decide +kernel
theorem dX8_likeliestOf_48 : decode cX8_likeliestOf 48 = .ok (.lstore 8, 2) := by decide +kernel
theorem dX8_likeliestOf_50 : decode cX8_likeliestOf 50 = .ok (.lload 8, 2) := by decide +kernel
theorem dX8_likeliestOf_52 : decode cX8_likeliestOf 52 = .ok (.lload 5, 2) := by decide +kernel
theorem dX8_likeliestOf_54 : decode cX8_likeliestOf 54 = .ok (.lcmp, 1) := by decide +kernel
theorem dX8_likeliestOf_55 : decode cX8_likeliestOf 55 = .ok (.ifCond .le 8, 3) := by decide +kernel
theorem dX8_likeliestOf_58 : decode cX8_likeliestOf 58 = .ok (.iload 7, 2) := by decide +kernel
theorem dX8_likeliestOf_60 : decode cX8_likeliestOf 60 = .ok (.goto 5, 3) := by decide +kernel
theorem dX8_likeliestOf_63 : decode cX8_likeliestOf 63 = .ok (.iload 4, 2) := by decide +kernel
theorem dX8_likeliestOf_65 : decode cX8_likeliestOf 65 = .ok (.istore 4, 2) := by decide +kernel
theorem dX8_likeliestOf_67 : decode cX8_likeliestOf 67 = .ok (.lload 8, 2) := by decide +kernel
theorem dX8_likeliestOf_69 : decode cX8_likeliestOf 69 = .ok (.lload 5, 2) := by decide +kernel
theorem dX8_likeliestOf_71 : decode cX8_likeliestOf 71 = .ok (.lcmp, 1) := by decide +kernel
theorem dX8_likeliestOf_72 : decode cX8_likeliestOf 72 = .ok (.ifCond .le 8, 3) := by decide +kernel
theorem dX8_likeliestOf_75 : decode cX8_likeliestOf 75 = .ok (.lload 8, 2) := by decide +kernel
theorem dX8_likeliestOf_77 : decode cX8_likeliestOf 77 = .ok (.goto 5, 3) := by decide +kernel
theorem dX8_likeliestOf_80 : decode cX8_likeliestOf 80 = .ok (.lload 5, 2) := by decide +kernel
theorem dX8_likeliestOf_82 : decode cX8_likeliestOf 82 = .ok (.lstore 5, 2) := by decide +kernel
theorem dX8_likeliestOf_84 : decode cX8_likeliestOf 84 = .ok (.iinc 7 1, 3) := by decide +kernel
theorem dX8_likeliestOf_87 : decode cX8_likeliestOf 87 = .ok (.goto (-72), 3) := by decide +kernel
theorem dX8_likeliestOf_90 : decode cX8_likeliestOf 90 = .ok (.iload 4, 2) := by decide +kernel
theorem dX8_likeliestOf_92 : decode cX8_likeliestOf 92 = .ok (.ireturn, 1) := by decide +kernel
theorem dX8_likeliest_0 : decode cX8_likeliest 0 = .ok (.iload_n 1, 1) := by decide +kernel
theorem dX8_likeliest_1 : decode cX8_likeliest 1 = .ok (.invokestatic 123, 3) := by decide +kernel
theorem dX8_likeliest_4 : decode cX8_likeliest 4 = .ok (.ifCond .eq 21, 3) := by decide +kernel
theorem dX8_likeliest_7 : decode cX8_likeliest 7 = .ok (.iload_n 2, 1) := by decide +kernel
theorem dX8_likeliest_8 : decode cX8_likeliest 8 = .ok (.iload_n 3, 1) := by decide +kernel
theorem dX8_likeliest_9 : decode cX8_likeliest 9 = .ok (.invokestatic 284, 3) := by decide +kernel
theorem dX8_likeliest_12 : decode cX8_likeliest 12 = .ok (.ifCond .eq 13, 3) := by decide +kernel
theorem dX8_likeliest_15 : decode cX8_likeliest 15 = .ok (.aload_n 0, 1) := by decide +kernel
theorem dX8_likeliest_16 : decode cX8_likeliest 16 = .ok (.iload_n 1, 1) := by decide +kernel
theorem dX8_likeliest_17 : decode cX8_likeliest 17 = .ok (.iload_n 2, 1) := by decide +kernel
theorem dX8_likeliest_18 : decode cX8_likeliest 18 = .ok (.iload_n 3, 1) := by decide +kernel
theorem dX8_likeliest_19 : decode cX8_likeliest 19 = .ok (.invokevirtual 293, 3) := by decide +kernel
theorem dX8_likeliest_22 : decode cX8_likeliest 22 = .ok (.goto 5, 3) := by decide +kernel
theorem dX8_likeliest_25 : decode cX8_likeliest 25 = .ok (.bipush (-2), 2) := by decide +kernel
theorem dX8_likeliest_27 : decode cX8_likeliest 27 = .ok (.ireturn, 1) := by decide +kernel
theorem dX8_power_0 : decode cX8_power 0 = .ok (.iconst 1, 1) := by decide +kernel
theorem dX8_power_1 : decode cX8_power 1 = .ok (.istore_n 2, 1) := by decide +kernel
theorem dX8_power_2 : decode cX8_power 2 = .ok (.iconst 0, 1) := by decide +kernel
theorem dX8_power_3 : decode cX8_power 3 = .ok (.istore_n 3, 1) := by decide +kernel
theorem dX8_power_4 : decode cX8_power 4 = .ok (.iload_n 3, 1) := by decide +kernel
theorem dX8_power_5 : decode cX8_power 5 = .ok (.iload_n 1, 1) := by decide +kernel
theorem dX8_power_6 : decode cX8_power 6 = .ok (.if_icmp .ge 13, 3) := by decide +kernel
theorem dX8_power_9 : decode cX8_power 9 = .ok (.iload_n 2, 1) := by decide +kernel
theorem dX8_power_10 : decode cX8_power 10 = .ok (.iload_n 0, 1) := by decide +kernel
theorem dX8_power_11 : decode cX8_power 11 = .ok (.imul, 1) := by decide +kernel
theorem dX8_power_12 : decode cX8_power 12 = .ok (.istore_n 2, 1) := by decide +kernel
theorem dX8_power_13 : decode cX8_power 13 = .ok (.iinc 3 1, 3) := by decide +kernel
theorem dX8_power_16 : decode cX8_power 16 = .ok (.goto (-12), 3) := by decide +kernel
theorem dX8_power_19 : decode cX8_power 19 = .ok (.iload_n 2, 1) := by decide +kernel
theorem dX8_power_20 : decode cX8_power 20 = .ok (.ireturn, 1) := by decide +kernel
theorem dX8_isSome_0 : decode cX8_isSome 0 = .ok (.aload_n 0, 1) := by decide +kernel
theorem dX8_isSome_1 : decode cX8_isSome 1 = .ok (.iload_n 1, 1) := by decide +kernel
theorem dX8_isSome_2 : decode cX8_isSome 2 = .ok (.iconst 0, 1) := by decide +kernel
theorem dX8_isSome_3 : decode cX8_isSome 3 = .ok (.invokevirtual 189, 3) := by decide +kernel
theorem dX8_isSome_6 : decode cX8_isSome 6 = .ok (.aload_n 0, 1) := by decide +kernel
theorem dX8_isSome_7 : decode cX8_isSome 7 = .ok (.iload_n 1, 1) := by decide +kernel
theorem dX8_isSome_8 : decode cX8_isSome 8 = .ok (.iconst 1, 1) := by decide +kernel
theorem dX8_isSome_9 : decode cX8_isSome 9 = .ok (.invokevirtual 189, 3) := by decide +kernel
theorem dX8_isSome_12 : decode cX8_isSome 12 = .ok (.ior, 1) := by decide +kernel
theorem dX8_isSome_13 : decode cX8_isSome 13 = .ok (.ifCond .eq 7, 3) := by decide +kernel
theorem dX8_isSome_16 : decode cX8_isSome 16 = .ok (.iconst 1, 1) := by decide +kernel
theorem dX8_isSome_17 : decode cX8_isSome 17 = .ok (.goto 4, 3) := by decide +kernel
theorem dX8_isSome_20 : decode cX8_isSome 20 = .ok (.iconst 0, 1) := by decide +kernel
theorem dX8_isSome_21 : decode cX8_isSome 21 = .ok (.ireturn, 1) := by decide +kernel
theorem dX8_learnt_0 : decode cX8_learnt 0 = .ok (.iconst 0, 1) := by decide +kernel
theorem dX8_learnt_1 : decode cX8_learnt 1 = .ok (.istore_n 3, 1) := by decide +kernel
theorem dX8_learnt_2 : decode cX8_learnt 2 = .ok (.iconst 0, 1) := by decide +kernel
theorem dX8_learnt_3 : decode cX8_learnt 3 = .ok (.istore 4, 2) := by decide +kernel
theorem dX8_learnt_5 : decode cX8_learnt 5 = .ok (.iload 4, 2) := by decide +kernel
theorem dX8_learnt_7 : decode cX8_learnt 7 = .ok (.bipush 12, 2) := by decide +kernel
theorem dX8_learnt_9 : decode cX8_learnt 9 = .ok (.if_icmp .ge 97, 3) := by decide +kernel
theorem dX8_learnt_12 : decode cX8_learnt 12 = .ok (.aload_n 0, 1) := by decide +kernel
theorem dX8_learnt_13 : decode cX8_learnt 13 = .ok (.getfield 70, 3) := by decide +kernel
theorem dX8_learnt_16 : decode cX8_learnt 16 = .ok (.iload 4, 2) := by decide +kernel
theorem dX8_learnt_18 : decode cX8_learnt 18 = .ok (.iaload, 1) := by decide +kernel
theorem dX8_learnt_19 : decode cX8_learnt 19 = .ok (.istore 5, 2) := by decide +kernel
theorem dX8_learnt_21 : decode cX8_learnt 21 = .ok (.iconst 0, 1) := by decide +kernel
theorem dX8_learnt_22 : decode cX8_learnt 22 = .ok (.istore 6, 2) := by decide +kernel
theorem dX8_learnt_24 : decode cX8_learnt 24 = .ok (.iload 6, 2) := by decide +kernel
theorem dX8_learnt_26 : decode cX8_learnt 26 = .ok (.iload_n 2, 1) := by decide +kernel
theorem dX8_learnt_27 : decode cX8_learnt 27 = .ok (.if_icmp .ge 73, 3) := by decide +kernel
theorem dX8_learnt_30 : decode cX8_learnt 30 = .ok (.iload 5, 2) := by decide +kernel
theorem dX8_learnt_32 : decode cX8_learnt 32 = .ok (.iconst (-1), 1) := by decide +kernel
theorem dX8_learnt_33 : decode cX8_learnt 33 = .ok (.if_icmp .eq 67, 3) := by decide +kernel
theorem dX8_learnt_36 : decode cX8_learnt 36 = .ok (.iload_n 1, 1) := by decide +kernel
theorem dX8_learnt_37 : decode cX8_learnt 37 = .ok (.aload_n 0, 1) := by decide +kernel
theorem dX8_learnt_38 : decode cX8_learnt 38 = .ok (.invokevirtual 111, 3) := by decide +kernel
theorem dX8_learnt_41 : decode cX8_learnt 41 = .ok (.iload_n 2, 1) := by decide +kernel
theorem dX8_learnt_42 : decode cX8_learnt 42 = .ok (.iconst 1, 1) := by decide +kernel
theorem dX8_learnt_43 : decode cX8_learnt 43 = .ok (.isub, 1) := by decide +kernel
theorem dX8_learnt_44 : decode cX8_learnt 44 = .ok (.iload 6, 2) := by decide +kernel
theorem dX8_learnt_46 : decode cX8_learnt 46 = .ok (.isub, 1) := by decide +kernel
theorem dX8_learnt_47 : decode cX8_learnt 47 = .ok (.invokestatic 296, 3) := by decide +kernel
theorem dX8_learnt_50 : decode cX8_learnt 50 = .ok (.idiv, 1) := by decide +kernel
theorem dX8_learnt_51 : decode cX8_learnt 51 = .ok (.aload_n 0, 1) := by decide +kernel
theorem dX8_learnt_52 : decode cX8_learnt 52 = .ok (.invokevirtual 111, 3) := by decide +kernel
theorem dX8_learnt_55 : decode cX8_learnt 55 = .ok (.irem, 1) := by decide +kernel
theorem dX8_learnt_56 : decode cX8_learnt 56 = .ok (.istore 7, 2) := by decide +kernel
theorem dX8_learnt_58 : decode cX8_learnt 58 = .ok (.iload 5, 2) := by decide +kernel
theorem dX8_learnt_60 : decode cX8_learnt 60 = .ok (.iload 7, 2) := by decide +kernel
theorem dX8_learnt_62 : decode cX8_learnt 62 = .ok (.invokestatic 153, 3) := by decide +kernel
theorem dX8_learnt_65 : decode cX8_learnt 65 = .ok (.ifCond .ne 29, 3) := by decide +kernel
theorem dX8_learnt_68 : decode cX8_learnt 68 = .ok (.aload_n 0, 1) := by decide +kernel
theorem dX8_learnt_69 : decode cX8_learnt 69 = .ok (.iload 5, 2) := by decide +kernel
theorem dX8_learnt_71 : decode cX8_learnt 71 = .ok (.iconst 1, 1) := by decide +kernel
theorem dX8_learnt_72 : decode cX8_learnt 72 = .ok (.iload 7, 2) := by decide +kernel
theorem dX8_learnt_74 : decode cX8_learnt 74 = .ok (.ishl, 1) := by decide +kernel
theorem dX8_learnt_75 : decode cX8_learnt 75 = .ok (.ior, 1) := by decide +kernel
theorem dX8_learnt_76 : decode cX8_learnt 76 = .ok (.invokevirtual 261, 3) := by decide +kernel
theorem dX8_learnt_79 : decode cX8_learnt 79 = .ok (.ifCond .eq 15, 3) := by decide +kernel
theorem dX8_learnt_82 : decode cX8_learnt 82 = .ok (.iload 5, 2) := by decide +kernel
theorem dX8_learnt_84 : decode cX8_learnt 84 = .ok (.iconst 1, 1) := by decide +kernel
theorem dX8_learnt_85 : decode cX8_learnt 85 = .ok (.iload 7, 2) := by decide +kernel
theorem dX8_learnt_87 : decode cX8_learnt 87 = .ok (.ishl, 1) := by decide +kernel
theorem dX8_learnt_88 : decode cX8_learnt 88 = .ok (.ior, 1) := by decide +kernel
theorem dX8_learnt_89 : decode cX8_learnt 89 = .ok (.istore 5, 2) := by decide +kernel
theorem dX8_learnt_91 : decode cX8_learnt 91 = .ok (.iinc 3 1, 3) := by decide +kernel
theorem dX8_learnt_94 : decode cX8_learnt 94 = .ok (.iinc 6 1, 3) := by decide +kernel
theorem dX8_learnt_97 : decode cX8_learnt 97 = .ok (.goto (-73), 3) := by decide +kernel
theorem dX8_learnt_100 : decode cX8_learnt 100 = .ok (.iinc 4 1, 3) := by decide +kernel
theorem dX8_learnt_103 : decode cX8_learnt 103 = .ok (.goto (-98), 3) := by decide +kernel
theorem dX8_learnt_106 : decode cX8_learnt 106 = .ok (.iload_n 3, 1) := by decide +kernel
theorem dX8_learnt_107 : decode cX8_learnt 107 = .ok (.ireturn, 1) := by decide +kernel
theorem dX8_lessonsOf_0 : decode cX8_lessonsOf 0 = .ok (.iconst 0, 1) := by decide +kernel
theorem dX8_lessonsOf_1 : decode cX8_lessonsOf 1 = .ok (.istore_n 3, 1) := by decide +kernel
theorem dX8_lessonsOf_2 : decode cX8_lessonsOf 2 = .ok (.iload_n 3, 1) := by decide +kernel
theorem dX8_lessonsOf_3 : decode cX8_lessonsOf 3 = .ok (.bipush 12, 2) := by decide +kernel
theorem dX8_lessonsOf_5 : decode cX8_lessonsOf 5 = .ok (.if_icmp .ge 37, 3) := by decide +kernel
theorem dX8_lessonsOf_8 : decode cX8_lessonsOf 8 = .ok (.aload_n 0, 1) := by decide +kernel
theorem dX8_lessonsOf_9 : decode cX8_lessonsOf 9 = .ok (.iload_n 3, 1) := by decide +kernel
theorem dX8_lessonsOf_10 : decode cX8_lessonsOf 10 = .ok (.iconst 0, 1) := by decide +kernel
theorem dX8_lessonsOf_11 : decode cX8_lessonsOf 11 = .ok (.invokevirtual 267, 3) := by decide +kernel
theorem dX8_lessonsOf_14 : decode cX8_lessonsOf 14 = .ok (.istore 4, 2) := by decide +kernel
theorem dX8_lessonsOf_16 : decode cX8_lessonsOf 16 = .ok (.aload_n 0, 1) := by decide +kernel
theorem dX8_lessonsOf_17 : decode cX8_lessonsOf 17 = .ok (.getfield 70, 3) := by decide +kernel
theorem dX8_lessonsOf_20 : decode cX8_lessonsOf 20 = .ok (.iload_n 3, 1) := by decide +kernel
theorem dX8_lessonsOf_21 : decode cX8_lessonsOf 21 = .ok (.aload_n 0, 1) := by decide +kernel
theorem dX8_lessonsOf_22 : decode cX8_lessonsOf 22 = .ok (.iload_n 3, 1) := by decide +kernel
theorem dX8_lessonsOf_23 : decode cX8_lessonsOf 23 = .ok (.invokevirtual 299, 3) := by decide +kernel
theorem dX8_lessonsOf_26 : decode cX8_lessonsOf 26 = .ok (.ifCond .eq 8, 3) := by decide +kernel
theorem dX8_lessonsOf_29 : decode cX8_lessonsOf 29 = .ok (.iload 4, 2) := by decide +kernel
theorem dX8_lessonsOf_31 : decode cX8_lessonsOf 31 = .ok (.goto 4, 3) := by decide +kernel
theorem dX8_lessonsOf_34 : decode cX8_lessonsOf 34 = .ok (.iconst (-1), 1) := by decide +kernel
theorem dX8_lessonsOf_35 : decode cX8_lessonsOf 35 = .ok (.iastore, 1) := by decide +kernel
theorem dX8_lessonsOf_36 : decode cX8_lessonsOf 36 = .ok (.iinc 3 1, 3) := by decide +kernel
theorem dX8_lessonsOf_39 : decode cX8_lessonsOf 39 = .ok (.goto (-37), 3) := by decide +kernel
theorem dX8_lessonsOf_42 : decode cX8_lessonsOf 42 = .ok (.iconst 0, 1) := by decide +kernel
theorem dX8_lessonsOf_43 : decode cX8_lessonsOf 43 = .ok (.istore_n 3, 1) := by decide +kernel
theorem dX8_lessonsOf_44 : decode cX8_lessonsOf 44 = .ok (.iconst (-1), 1) := by decide +kernel
theorem dX8_lessonsOf_45 : decode cX8_lessonsOf 45 = .ok (.istore 4, 2) := by decide +kernel
theorem dX8_lessonsOf_47 : decode cX8_lessonsOf 47 = .ok (.iconst 0, 1) := by decide +kernel
theorem dX8_lessonsOf_48 : decode cX8_lessonsOf 48 = .ok (.istore 5, 2) := by decide +kernel
theorem dX8_lessonsOf_50 : decode cX8_lessonsOf 50 = .ok (.iload 5, 2) := by decide +kernel
theorem dX8_lessonsOf_52 : decode cX8_lessonsOf 52 = .ok (.aload_n 0, 1) := by decide +kernel
theorem dX8_lessonsOf_53 : decode cX8_lessonsOf 53 = .ok (.invokevirtual 111, 3) := by decide +kernel
theorem dX8_lessonsOf_56 : decode cX8_lessonsOf 56 = .ok (.iload_n 1, 1) := by decide +kernel
theorem dX8_lessonsOf_57 : decode cX8_lessonsOf 57 = .ok (.invokestatic 296, 3) := by decide +kernel
theorem dX8_lessonsOf_60 : decode cX8_lessonsOf 60 = .ok (.if_icmp .ge 48, 3) := by decide +kernel
theorem dX8_lessonsOf_63 : decode cX8_lessonsOf 63 = .ok (.aload_n 0, 1) := by decide +kernel
theorem dX8_lessonsOf_64 : decode cX8_lessonsOf 64 = .ok (.iload 5, 2) := by decide +kernel
theorem dX8_lessonsOf_66 : decode cX8_lessonsOf 66 = .ok (.iload_n 1, 1) := by decide +kernel
theorem dX8_lessonsOf_67 : decode cX8_lessonsOf 67 = .ok (.invokevirtual 302, 3) := by decide +kernel
theorem dX8_lessonsOf_70 : decode cX8_lessonsOf 70 = .ok (.istore 6, 2) := by decide +kernel
theorem dX8_lessonsOf_72 : decode cX8_lessonsOf 72 = .ok (.iload 6, 2) := by decide +kernel
theorem dX8_lessonsOf_74 : decode cX8_lessonsOf 74 = .ok (.iload 4, 2) := by decide +kernel
theorem dX8_lessonsOf_76 : decode cX8_lessonsOf 76 = .ok (.if_icmp .le 8, 3) := by decide +kernel
theorem dX8_lessonsOf_79 : decode cX8_lessonsOf 79 = .ok (.iload 5, 2) := by decide +kernel
theorem dX8_lessonsOf_81 : decode cX8_lessonsOf 81 = .ok (.goto 4, 3) := by decide +kernel
theorem dX8_lessonsOf_84 : decode cX8_lessonsOf 84 = .ok (.iload_n 3, 1) := by decide +kernel
theorem dX8_lessonsOf_85 : decode cX8_lessonsOf 85 = .ok (.istore_n 3, 1) := by decide +kernel
theorem dX8_lessonsOf_86 : decode cX8_lessonsOf 86 = .ok (.iload 6, 2) := by decide +kernel
theorem dX8_lessonsOf_88 : decode cX8_lessonsOf 88 = .ok (.iload 4, 2) := by decide +kernel
theorem dX8_lessonsOf_90 : decode cX8_lessonsOf 90 = .ok (.if_icmp .le 8, 3) := by decide +kernel
theorem dX8_lessonsOf_93 : decode cX8_lessonsOf 93 = .ok (.iload 6, 2) := by decide +kernel
theorem dX8_lessonsOf_95 : decode cX8_lessonsOf 95 = .ok (.goto 5, 3) := by decide +kernel
theorem dX8_lessonsOf_98 : decode cX8_lessonsOf 98 = .ok (.iload 4, 2) := by decide +kernel
theorem dX8_lessonsOf_100 : decode cX8_lessonsOf 100 = .ok (.istore 4, 2) := by decide +kernel
theorem dX8_lessonsOf_102 : decode cX8_lessonsOf 102 = .ok (.iinc 5 1, 3) := by decide +kernel
theorem dX8_lessonsOf_105 : decode cX8_lessonsOf 105 = .ok (.goto (-55), 3) := by decide +kernel
theorem dX8_lessonsOf_108 : decode cX8_lessonsOf 108 = .ok (.iload_n 2, 1) := by decide +kernel
theorem dX8_lessonsOf_109 : decode cX8_lessonsOf 109 = .ok (.iconst (-1), 1) := by decide +kernel
theorem dX8_lessonsOf_110 : decode cX8_lessonsOf 110 = .ok (.if_icmp .ne 8, 3) := by decide +kernel
theorem dX8_lessonsOf_113 : decode cX8_lessonsOf 113 = .ok (.iload 4, 2) := by decide +kernel
theorem dX8_lessonsOf_115 : decode cX8_lessonsOf 115 = .ok (.goto 22, 3) := by decide +kernel
theorem dX8_lessonsOf_118 : decode cX8_lessonsOf 118 = .ok (.iload_n 3, 1) := by decide +kernel
theorem dX8_lessonsOf_119 : decode cX8_lessonsOf 119 = .ok (.aload_n 0, 1) := by decide +kernel
theorem dX8_lessonsOf_120 : decode cX8_lessonsOf 120 = .ok (.invokevirtual 111, 3) := by decide +kernel
theorem dX8_lessonsOf_123 : decode cX8_lessonsOf 123 = .ok (.iload_n 1, 1) := by decide +kernel
theorem dX8_lessonsOf_124 : decode cX8_lessonsOf 124 = .ok (.iconst 1, 1) := by decide +kernel
theorem dX8_lessonsOf_125 : decode cX8_lessonsOf 125 = .ok (.isub, 1) := by decide +kernel
theorem dX8_lessonsOf_126 : decode cX8_lessonsOf 126 = .ok (.iload_n 2, 1) := by decide +kernel
theorem dX8_lessonsOf_127 : decode cX8_lessonsOf 127 = .ok (.isub, 1) := by decide +kernel
theorem dX8_lessonsOf_128 : decode cX8_lessonsOf 128 = .ok (.invokestatic 296, 3) := by decide +kernel
theorem dX8_lessonsOf_131 : decode cX8_lessonsOf 131 = .ok (.idiv, 1) := by decide +kernel
theorem dX8_lessonsOf_132 : decode cX8_lessonsOf 132 = .ok (.aload_n 0, 1) := by decide +kernel
theorem dX8_lessonsOf_133 : decode cX8_lessonsOf 133 = .ok (.invokevirtual 111, 3) := by decide +kernel
theorem dX8_lessonsOf_136 : decode cX8_lessonsOf 136 = .ok (.irem, 1) := by decide +kernel
theorem dX8_lessonsOf_137 : decode cX8_lessonsOf 137 = .ok (.ireturn, 1) := by decide +kernel
theorem dX8_lessons_0 : decode cX8_lessons 0 = .ok (.iload_n 1, 1) := by decide +kernel
theorem dX8_lessons_1 : decode cX8_lessons 1 = .ok (.i2l, 1) := by decide +kernel
theorem dX8_lessons_2 : decode cX8_lessons 2 = .ok (.lconst 0, 1) := by decide +kernel
theorem dX8_lessons_3 : decode cX8_lessons 3 = .ok (.ldc2_w 305, 3) := by decide +kernel
theorem dX8_lessons_6 : decode cX8_lessons 6 = .ok (.invokestatic 78, 3) := by decide +kernel
theorem dX8_lessons_9 : decode cX8_lessons 9 = .ok (.ifCond .eq 27, 3) := by decide +kernel
theorem dX8_lessons_12 : decode cX8_lessons 12 = .ok (.iload_n 2, 1) := by decide +kernel
theorem dX8_lessons_13 : decode cX8_lessons 13 = .ok (.i2l, 1) := by decide +kernel
theorem dX8_lessons_14 : decode cX8_lessons 14 = .ok (.ldc2_w 291, 3) := by decide +kernel
theorem dX8_lessons_17 : decode cX8_lessons 17 = .ok (.iload_n 1, 1) := by decide +kernel
theorem dX8_lessons_18 : decode cX8_lessons 18 = .ok (.iconst 1, 1) := by decide +kernel
theorem dX8_lessons_19 : decode cX8_lessons 19 = .ok (.isub, 1) := by decide +kernel
theorem dX8_lessons_20 : decode cX8_lessons 20 = .ok (.i2l, 1) := by decide +kernel
theorem dX8_lessons_21 : decode cX8_lessons 21 = .ok (.invokestatic 78, 3) := by decide +kernel
theorem dX8_lessons_24 : decode cX8_lessons 24 = .ok (.ifCond .eq 12, 3) := by decide +kernel
theorem dX8_lessons_27 : decode cX8_lessons 27 = .ok (.aload_n 0, 1) := by decide +kernel
theorem dX8_lessons_28 : decode cX8_lessons 28 = .ok (.iload_n 1, 1) := by decide +kernel
theorem dX8_lessons_29 : decode cX8_lessons 29 = .ok (.iload_n 2, 1) := by decide +kernel
theorem dX8_lessons_30 : decode cX8_lessons 30 = .ok (.invokevirtual 307, 3) := by decide +kernel
theorem dX8_lessons_33 : decode cX8_lessons 33 = .ok (.goto 5, 3) := by decide +kernel
theorem dX8_lessons_36 : decode cX8_lessons 36 = .ok (.bipush (-2), 2) := by decide +kernel
theorem dX8_lessons_38 : decode cX8_lessons 38 = .ok (.ireturn, 1) := by decide +kernel
theorem dX8_write_0 : decode cX8_write 0 = .ok (.iload_n 1, 1) := by decide +kernel
theorem dX8_write_1 : decode cX8_write 1 = .ok (.invokestatic 88, 3) := by decide +kernel
theorem dX8_write_4 : decode cX8_write 4 = .ok (.ifCond .ne 6, 3) := by decide +kernel
theorem dX8_write_7 : decode cX8_write 7 = .ok (.bipush (-2), 2) := by decide +kernel
theorem dX8_write_9 : decode cX8_write 9 = .ok (.ireturn, 1) := by decide +kernel
theorem dX8_write_10 : decode cX8_write 10 = .ok (.aload_n 0, 1) := by decide +kernel
theorem dX8_write_11 : decode cX8_write 11 = .ok (.getfield 7, 3) := by decide +kernel
theorem dX8_write_14 : decode cX8_write 14 = .ok (.iload_n 1, 1) := by decide +kernel
theorem dX8_write_15 : decode cX8_write 15 = .ok (.iaload, 1) := by decide +kernel
theorem dX8_write_16 : decode cX8_write 16 = .ok (.ifCond .ge 9, 3) := by decide +kernel
theorem dX8_write_19 : decode cX8_write 19 = .ok (.aload_n 0, 1) := by decide +kernel
theorem dX8_write_20 : decode cX8_write 20 = .ok (.iconst 1, 1) := by decide +kernel
theorem dX8_write_21 : decode cX8_write 21 = .ok (.invokevirtual 94, 3) := by decide +kernel
theorem dX8_write_24 : decode cX8_write 24 = .ok (.ireturn, 1) := by decide +kernel
theorem dX8_write_25 : decode cX8_write 25 = .ok (.aload_n 0, 1) := by decide +kernel
theorem dX8_write_26 : decode cX8_write 26 = .ok (.getfield 13, 3) := by decide +kernel
theorem dX8_write_29 : decode cX8_write 29 = .ok (.iload_n 1, 1) := by decide +kernel
theorem dX8_write_30 : decode cX8_write 30 = .ok (.iaload, 1) := by decide +kernel
theorem dX8_write_31 : decode cX8_write 31 = .ok (.bipush 12, 2) := by decide +kernel
theorem dX8_write_33 : decode cX8_write 33 = .ok (.if_icmp .ge 12, 3) := by decide +kernel
theorem dX8_write_36 : decode cX8_write 36 = .ok (.aload_n 0, 1) := by decide +kernel
theorem dX8_write_37 : decode cX8_write 37 = .ok (.getfield 13, 3) := by decide +kernel
theorem dX8_write_40 : decode cX8_write 40 = .ok (.iload_n 1, 1) := by decide +kernel
theorem dX8_write_41 : decode cX8_write 41 = .ok (.iaload, 1) := by decide +kernel
theorem dX8_write_42 : decode cX8_write 42 = .ok (.goto 5, 3) := by decide +kernel
theorem dX8_write_45 : decode cX8_write 45 = .ok (.bipush 12, 2) := by decide +kernel
theorem dX8_write_47 : decode cX8_write 47 = .ok (.istore_n 2, 1) := by decide +kernel
theorem dX8_write_48 : decode cX8_write 48 = .ok (.iconst 0, 1) := by decide +kernel
theorem dX8_write_49 : decode cX8_write 49 = .ok (.istore_n 3, 1) := by decide +kernel
theorem dX8_write_50 : decode cX8_write 50 = .ok (.iload_n 3, 1) := by decide +kernel
theorem dX8_write_51 : decode cX8_write 51 = .ok (.iload_n 2, 1) := by decide +kernel
theorem dX8_write_52 : decode cX8_write 52 = .ok (.if_icmp .ge 35, 3) := by decide +kernel
theorem dX8_write_55 : decode cX8_write 55 = .ok (.aload_n 0, 1) := by decide +kernel
theorem dX8_write_56 : decode cX8_write 56 = .ok (.getfield 16, 3) := by decide +kernel
theorem dX8_write_59 : decode cX8_write 59 = .ok (.bipush 60, 2) := by decide +kernel
theorem dX8_write_61 : decode cX8_write 61 = .ok (.iload_n 1, 1) := by decide +kernel
theorem dX8_write_62 : decode cX8_write 62 = .ok (.imul, 1) := by decide +kernel
theorem dX8_write_63 : decode cX8_write 63 = .ok (.iload_n 3, 1) := by decide +kernel
theorem dX8_write_64 : decode cX8_write 64 = .ok (.iadd, 1) := by decide +kernel
theorem dX8_write_65 : decode cX8_write 65 = .ok (.aload_n 0, 1) := by decide +kernel
theorem dX8_write_66 : decode cX8_write 66 = .ok (.getfield 7, 3) := by decide +kernel
theorem dX8_write_69 : decode cX8_write 69 = .ok (.iload_n 1, 1) := by decide +kernel
theorem dX8_write_70 : decode cX8_write 70 = .ok (.iaload, 1) := by decide +kernel
theorem dX8_write_71 : decode cX8_write 71 = .ok (.aload_n 0, 1) := by decide +kernel
theorem dX8_write_72 : decode cX8_write 72 = .ok (.iload_n 3, 1) := by decide +kernel
theorem dX8_write_73 : decode cX8_write 73 = .ok (.iconst 0, 1) := by decide +kernel
theorem dX8_write_74 : decode cX8_write 74 = .ok (.invokevirtual 267, 3) := by decide +kernel
theorem dX8_write_77 : decode cX8_write 77 = .ok (.invokestatic 102, 3) := by decide +kernel
theorem dX8_write_80 : decode cX8_write 80 = .ok (.iastore, 1) := by decide +kernel
theorem dX8_write_81 : decode cX8_write 81 = .ok (.iinc 3 1, 3) := by decide +kernel
theorem dX8_write_84 : decode cX8_write 84 = .ok (.goto (-34), 3) := by decide +kernel
theorem dX8_write_87 : decode cX8_write 87 = .ok (.iload_n 2, 1) := by decide +kernel
theorem dX8_write_88 : decode cX8_write 88 = .ok (.ireturn, 1) := by decide +kernel
theorem dX8_pupilsWith_0 : decode cX8_pupilsWith 0 = .ok (.iconst 0, 1) := by decide +kernel
theorem dX8_pupilsWith_1 : decode cX8_pupilsWith 1 = .ok (.istore_n 1, 1) := by decide +kernel
theorem dX8_pupilsWith_2 : decode cX8_pupilsWith 2 = .ok (.iconst 0, 1) := by decide +kernel
theorem dX8_pupilsWith_3 : decode cX8_pupilsWith 3 = .ok (.istore_n 2, 1) := by decide +kernel
theorem dX8_pupilsWith_4 : decode cX8_pupilsWith 4 = .ok (.iload_n 2, 1) := by decide +kernel
theorem dX8_pupilsWith_5 : decode cX8_pupilsWith 5 = .ok (.bipush 12, 2) := by decide +kernel
theorem dX8_pupilsWith_7 : decode cX8_pupilsWith 7 = .ok (.if_icmp .ge 25, 3) := by decide +kernel
theorem dX8_pupilsWith_10 : decode cX8_pupilsWith 10 = .ok (.iload_n 1, 1) := by decide +kernel
theorem dX8_pupilsWith_11 : decode cX8_pupilsWith 11 = .ok (.aload_n 0, 1) := by decide +kernel
theorem dX8_pupilsWith_12 : decode cX8_pupilsWith 12 = .ok (.iload_n 2, 1) := by decide +kernel
theorem dX8_pupilsWith_13 : decode cX8_pupilsWith 13 = .ok (.invokevirtual 299, 3) := by decide +kernel
theorem dX8_pupilsWith_16 : decode cX8_pupilsWith 16 = .ok (.ifCond .eq 7, 3) := by decide +kernel
theorem dX8_pupilsWith_19 : decode cX8_pupilsWith 19 = .ok (.iconst 1, 1) := by decide +kernel
theorem dX8_pupilsWith_20 : decode cX8_pupilsWith 20 = .ok (.goto 4, 3) := by decide +kernel
theorem dX8_pupilsWith_23 : decode cX8_pupilsWith 23 = .ok (.iconst 0, 1) := by decide +kernel
theorem dX8_pupilsWith_24 : decode cX8_pupilsWith 24 = .ok (.iadd, 1) := by decide +kernel
theorem dX8_pupilsWith_25 : decode cX8_pupilsWith 25 = .ok (.istore_n 1, 1) := by decide +kernel
theorem dX8_pupilsWith_26 : decode cX8_pupilsWith 26 = .ok (.iinc 2 1, 3) := by decide +kernel
theorem dX8_pupilsWith_29 : decode cX8_pupilsWith 29 = .ok (.goto (-25), 3) := by decide +kernel
theorem dX8_pupilsWith_32 : decode cX8_pupilsWith 32 = .ok (.iload_n 1, 1) := by decide +kernel
theorem dX8_pupilsWith_33 : decode cX8_pupilsWith 33 = .ok (.ireturn, 1) := by decide +kernel
theorem dX8_count_0 : decode cX8_count 0 = .ok (.aload_n 0, 1) := by decide +kernel
theorem dX8_count_1 : decode cX8_count 1 = .ok (.invokevirtual 182, 3) := by decide +kernel
theorem dX8_count_4 : decode cX8_count 4 = .ok (.iload_n 1, 1) := by decide +kernel
theorem dX8_count_5 : decode cX8_count 5 = .ok (.tableswitch 106 0 8 #[51, 56, 61, 73, 79, 84, 89, 94, 101], 51) := by decide +kernel
theorem dX8_count_56 : decode cX8_count 56 = .ok (.aload_n 0, 1) := by decide +kernel
theorem dX8_count_57 : decode cX8_count 57 = .ok (.invokevirtual 111, 3) := by decide +kernel
theorem dX8_count_60 : decode cX8_count 60 = .ok (.ireturn, 1) := by decide +kernel
theorem dX8_count_61 : decode cX8_count 61 = .ok (.aload_n 0, 1) := by decide +kernel
theorem dX8_count_62 : decode cX8_count 62 = .ok (.getfield 118, 3) := by decide +kernel
theorem dX8_count_65 : decode cX8_count 65 = .ok (.ireturn, 1) := by decide +kernel
theorem dX8_count_66 : decode cX8_count 66 = .ok (.aload_n 0, 1) := by decide +kernel
theorem dX8_count_67 : decode cX8_count 67 = .ok (.iconst 0, 1) := by decide +kernel
theorem dX8_count_68 : decode cX8_count 68 = .ok (.invokevirtual 231, 3) := by decide +kernel
theorem dX8_count_71 : decode cX8_count 71 = .ok (.aload_n 0, 1) := by decide +kernel
theorem dX8_count_72 : decode cX8_count 72 = .ok (.iconst 1, 1) := by decide +kernel
theorem dX8_count_73 : decode cX8_count 73 = .ok (.invokevirtual 231, 3) := by decide +kernel
theorem dX8_count_76 : decode cX8_count 76 = .ok (.iadd, 1) := by decide +kernel
theorem dX8_count_77 : decode cX8_count 77 = .ok (.ireturn, 1) := by decide +kernel
theorem dX8_count_78 : decode cX8_count 78 = .ok (.aload_n 0, 1) := by decide +kernel
theorem dX8_count_79 : decode cX8_count 79 = .ok (.iconst 1, 1) := by decide +kernel
theorem dX8_count_80 : decode cX8_count 80 = .ok (.invokevirtual 231, 3) := by decide +kernel
theorem dX8_count_83 : decode cX8_count 83 = .ok (.ireturn, 1) := by decide +kernel
theorem dX8_count_84 : decode cX8_count 84 = .ok (.aload_n 0, 1) := by decide +kernel
theorem dX8_count_85 : decode cX8_count 85 = .ok (.invokevirtual 310, 3) := by decide +kernel
theorem dX8_count_88 : decode cX8_count 88 = .ok (.ireturn, 1) := by decide +kernel
theorem dX8_count_89 : decode cX8_count 89 = .ok (.aload_n 0, 1) := by decide +kernel
theorem dX8_count_90 : decode cX8_count 90 = .ok (.getfield 141, 3) := by decide +kernel
theorem dX8_count_93 : decode cX8_count 93 = .ok (.ireturn, 1) := by decide +kernel
theorem dX8_count_94 : decode cX8_count 94 = .ok (.aload_n 0, 1) := by decide +kernel
theorem dX8_count_95 : decode cX8_count 95 = .ok (.getfield 147, 3) := by decide +kernel
theorem dX8_count_98 : decode cX8_count 98 = .ok (.ireturn, 1) := by decide +kernel
theorem dX8_count_99 : decode cX8_count 99 = .ok (.aload_n 0, 1) := by decide +kernel
theorem dX8_count_100 : decode cX8_count 100 = .ok (.getfield 22, 3) := by decide +kernel
theorem dX8_count_103 : decode cX8_count 103 = .ok (.iconst 2, 1) := by decide +kernel
theorem dX8_count_104 : decode cX8_count 104 = .ok (.iaload, 1) := by decide +kernel
theorem dX8_count_105 : decode cX8_count 105 = .ok (.ireturn, 1) := by decide +kernel
theorem dX8_count_106 : decode cX8_count 106 = .ok (.aload_n 0, 1) := by decide +kernel
theorem dX8_count_107 : decode cX8_count 107 = .ok (.getfield 82, 3) := by decide +kernel
theorem dX8_count_110 : decode cX8_count 110 = .ok (.ireturn, 1) := by decide +kernel
theorem dX8_count_111 : decode cX8_count 111 = .ok (.bipush (-2), 2) := by decide +kernel
theorem dX8_count_113 : decode cX8_count 113 = .ok (.ireturn, 1) := by decide +kernel
theorem dX8_digest_0 : decode cX8_digest 0 = .ok (.ldc2_w 313, 3) := by decide +kernel
theorem dX8_digest_3 : decode cX8_digest 3 = .ok (.lstore_n 1, 1) := by decide +kernel
theorem dX8_digest_4 : decode cX8_digest 4 = .ok (.iconst 0, 1) := by decide +kernel
theorem dX8_digest_5 : decode cX8_digest 5 = .ok (.istore_n 3, 1) := by decide +kernel
theorem dX8_digest_6 : decode cX8_digest 6 = .ok (.iload_n 3, 1) := by decide +kernel
theorem dX8_digest_7 : decode cX8_digest 7 = .ok (.bipush 8, 2) := by decide +kernel
theorem dX8_digest_9 : decode cX8_digest 9 = .ok (.if_icmp .ge 22, 3) := by decide +kernel
theorem dX8_digest_12 : decode cX8_digest 12 = .ok (.ldc2_w 315, 3) := by decide +kernel
theorem dX8_digest_15 : decode cX8_digest 15 = .ok (.lload_n 1, 1) := by decide +kernel
theorem dX8_digest_16 : decode cX8_digest 16 = .ok (.lmul, 1) := by decide +kernel
theorem dX8_digest_17 : decode cX8_digest 17 = .ok (.aload_n 0, 1) := by decide +kernel
theorem dX8_digest_18 : decode cX8_digest 18 = .ok (.iload_n 3, 1) := by decide +kernel
theorem dX8_digest_19 : decode cX8_digest 19 = .ok (.invokevirtual 317, 3) := by decide +kernel
theorem dX8_digest_22 : decode cX8_digest 22 = .ok (.i2l, 1) := by decide +kernel
theorem dX8_digest_23 : decode cX8_digest 23 = .ok (.ladd, 1) := by decide +kernel
theorem dX8_digest_24 : decode cX8_digest 24 = .ok (.lstore_n 1, 1) := by decide +kernel
theorem dX8_digest_25 : decode cX8_digest 25 = .ok (.iinc 3 1, 3) := by decide +kernel
theorem dX8_digest_28 : decode cX8_digest 28 = .ok (.goto (-22), 3) := by decide +kernel
theorem dX8_digest_31 : decode cX8_digest 31 = .ok (.ldc2_w 315, 3) := by decide +kernel
theorem dX8_digest_34 : decode cX8_digest 34 = .ok (.lload_n 1, 1) := by decide +kernel
theorem dX8_digest_35 : decode cX8_digest 35 = .ok (.lmul, 1) := by decide +kernel
theorem dX8_digest_36 : decode cX8_digest 36 = .ok (.aload_n 0, 1) := by decide +kernel
theorem dX8_digest_37 : decode cX8_digest 37 = .ok (.invokevirtual 170, 3) := by decide +kernel
theorem dX8_digest_40 : decode cX8_digest 40 = .ok (.i2l, 1) := by decide +kernel
theorem dX8_digest_41 : decode cX8_digest 41 = .ok (.ladd, 1) := by decide +kernel
theorem dX8_digest_42 : decode cX8_digest 42 = .ok (.lstore_n 1, 1) := by decide +kernel
theorem dX8_digest_43 : decode cX8_digest 43 = .ok (.aload_n 0, 1) := by decide +kernel
theorem dX8_digest_44 : decode cX8_digest 44 = .ok (.invokevirtual 222, 3) := by decide +kernel
theorem dX8_digest_47 : decode cX8_digest 47 = .ok (.aload_n 0, 1) := by decide +kernel
theorem dX8_digest_48 : decode cX8_digest 48 = .ok (.getfield 207, 3) := by decide +kernel
theorem dX8_digest_51 : decode cX8_digest 51 = .ok (.istore_n 3, 1) := by decide +kernel
theorem dX8_digest_52 : decode cX8_digest 52 = .ok (.aload_n 0, 1) := by decide +kernel
theorem dX8_digest_53 : decode cX8_digest 53 = .ok (.getfield 210, 3) := by decide +kernel
theorem dX8_digest_56 : decode cX8_digest 56 = .ok (.istore 4, 2) := by decide +kernel
theorem dX8_digest_58 : decode cX8_digest 58 = .ok (.iconst (-1), 1) := by decide +kernel
theorem dX8_digest_59 : decode cX8_digest 59 = .ok (.istore 5, 2) := by decide +kernel
theorem dX8_digest_61 : decode cX8_digest 61 = .ok (.iconst 0, 1) := by decide +kernel
theorem dX8_digest_62 : decode cX8_digest 62 = .ok (.istore 6, 2) := by decide +kernel
theorem dX8_digest_64 : decode cX8_digest 64 = .ok (.iconst 0, 1) := by decide +kernel
theorem dX8_digest_65 : decode cX8_digest 65 = .ok (.istore 7, 2) := by decide +kernel
theorem dX8_digest_67 : decode cX8_digest 67 = .ok (.iload 7, 2) := by decide +kernel
theorem dX8_digest_69 : decode cX8_digest 69 = .ok (.bipush 12, 2) := by decide +kernel
theorem dX8_digest_71 : decode cX8_digest 71 = .ok (.if_icmp .ge 122, 3) := by decide +kernel
theorem dX8_digest_74 : decode cX8_digest 74 = .ok (.aload_n 0, 1) := by decide +kernel
theorem dX8_digest_75 : decode cX8_digest 75 = .ok (.iload 7, 2) := by decide +kernel
theorem dX8_digest_77 : decode cX8_digest 77 = .ok (.iconst 1, 1) := by decide +kernel
theorem dX8_digest_78 : decode cX8_digest 78 = .ok (.invokevirtual 225, 3) := by decide +kernel
theorem dX8_digest_81 : decode cX8_digest 81 = .ok (.istore 8, 2) := by decide +kernel
theorem dX8_digest_83 : decode cX8_digest 83 = .ok (.iload 8, 2) := by decide +kernel
theorem dX8_digest_85 : decode cX8_digest 85 = .ok (.iload 6, 2) := by decide +kernel
theorem dX8_digest_87 : decode cX8_digest 87 = .ok (.if_icmp .le 8, 3) := by decide +kernel
theorem dX8_digest_90 : decode cX8_digest 90 = .ok (.iload 7, 2) := by decide +kernel
theorem dX8_digest_92 : decode cX8_digest 92 = .ok (.goto 5, 3) := by decide +kernel
theorem dX8_digest_95 : decode cX8_digest 95 = .ok (.iload 5, 2) := by decide +kernel
theorem dX8_digest_97 : decode cX8_digest 97 = .ok (.istore 5, 2) := by decide +kernel
theorem dX8_digest_99 : decode cX8_digest 99 = .ok (.iload 8, 2) := by decide +kernel
theorem dX8_digest_101 : decode cX8_digest 101 = .ok (.iload 6, 2) := by decide +kernel
theorem dX8_digest_103 : decode cX8_digest 103 = .ok (.if_icmp .le 8, 3) := by decide +kernel
theorem dX8_digest_106 : decode cX8_digest 106 = .ok (.iload 8, 2) := by decide +kernel
theorem dX8_digest_108 : decode cX8_digest 108 = .ok (.goto 5, 3) := by decide +kernel
theorem dX8_digest_111 : decode cX8_digest 111 = .ok (.iload 6, 2) := by decide +kernel
theorem dX8_digest_113 : decode cX8_digest 113 = .ok (.istore 6, 2) := by decide +kernel
theorem dX8_digest_115 : decode cX8_digest 115 = .ok (.ldc2_w 315, 3) := by decide +kernel
theorem dX8_digest_118 : decode cX8_digest 118 = .ok (.lload_n 1, 1) := by decide +kernel
theorem dX8_digest_119 : decode cX8_digest 119 = .ok (.lmul, 1) := by decide +kernel
theorem dX8_digest_120 : decode cX8_digest 120 = .ok (.aload_n 0, 1) := by decide +kernel
theorem dX8_digest_121 : decode cX8_digest 121 = .ok (.iload 7, 2) := by decide +kernel
theorem dX8_digest_123 : decode cX8_digest 123 = .ok (.iconst 0, 1) := by decide +kernel
theorem dX8_digest_124 : decode cX8_digest 124 = .ok (.invokevirtual 225, 3) := by decide +kernel
theorem dX8_digest_127 : decode cX8_digest 127 = .ok (.i2l, 1) := by decide +kernel
theorem dX8_digest_128 : decode cX8_digest 128 = .ok (.ladd, 1) := by decide +kernel
theorem dX8_digest_129 : decode cX8_digest 129 = .ok (.lstore_n 1, 1) := by decide +kernel
theorem dX8_digest_130 : decode cX8_digest 130 = .ok (.ldc2_w 315, 3) := by decide +kernel
theorem dX8_digest_133 : decode cX8_digest 133 = .ok (.lload_n 1, 1) := by decide +kernel
theorem dX8_digest_134 : decode cX8_digest 134 = .ok (.lmul, 1) := by decide +kernel
theorem dX8_digest_135 : decode cX8_digest 135 = .ok (.iload 8, 2) := by decide +kernel
theorem dX8_digest_137 : decode cX8_digest 137 = .ok (.i2l, 1) := by decide +kernel
theorem dX8_digest_138 : decode cX8_digest 138 = .ok (.ladd, 1) := by decide +kernel
theorem dX8_digest_139 : decode cX8_digest 139 = .ok (.lstore_n 1, 1) := by decide +kernel
theorem dX8_digest_140 : decode cX8_digest 140 = .ok (.iconst 0, 1) := by decide +kernel
theorem dX8_digest_141 : decode cX8_digest 141 = .ok (.istore 9, 2) := by decide +kernel
theorem dX8_digest_143 : decode cX8_digest 143 = .ok (.iload 9, 2) := by decide +kernel
theorem dX8_digest_145 : decode cX8_digest 145 = .ok (.iconst 3, 1) := by decide +kernel
theorem dX8_digest_146 : decode cX8_digest 146 = .ok (.if_icmp .ge 25, 3) := by decide +kernel
theorem dX8_digest_149 : decode cX8_digest 149 = .ok (.ldc2_w 315, 3) := by decide +kernel
theorem dX8_digest_152 : decode cX8_digest 152 = .ok (.lload_n 1, 1) := by decide +kernel
theorem dX8_digest_153 : decode cX8_digest 153 = .ok (.lmul, 1) := by decide +kernel
theorem dX8_digest_154 : decode cX8_digest 154 = .ok (.aload_n 0, 1) := by decide +kernel
theorem dX8_digest_155 : decode cX8_digest 155 = .ok (.iload 7, 2) := by decide +kernel
theorem dX8_digest_157 : decode cX8_digest 157 = .ok (.iload 9, 2) := by decide +kernel
theorem dX8_digest_159 : decode cX8_digest 159 = .ok (.invokevirtual 267, 3) := by decide +kernel
theorem dX8_digest_162 : decode cX8_digest 162 = .ok (.i2l, 1) := by decide +kernel
theorem dX8_digest_163 : decode cX8_digest 163 = .ok (.ladd, 1) := by decide +kernel
theorem dX8_digest_164 : decode cX8_digest 164 = .ok (.lstore_n 1, 1) := by decide +kernel
theorem dX8_digest_165 : decode cX8_digest 165 = .ok (.iinc 9 1, 3) := by decide +kernel
theorem dX8_digest_168 : decode cX8_digest 168 = .ok (.goto (-25), 3) := by decide +kernel
theorem dX8_digest_171 : decode cX8_digest 171 = .ok (.ldc2_w 315, 3) := by decide +kernel
theorem dX8_digest_174 : decode cX8_digest 174 = .ok (.lload_n 1, 1) := by decide +kernel
theorem dX8_digest_175 : decode cX8_digest 175 = .ok (.lmul, 1) := by decide +kernel
theorem dX8_digest_176 : decode cX8_digest 176 = .ok (.aload_n 0, 1) := by decide +kernel
theorem dX8_digest_177 : decode cX8_digest 177 = .ok (.iload 7, 2) := by decide +kernel
theorem dX8_digest_179 : decode cX8_digest 179 = .ok (.iconst 2, 1) := by decide +kernel
theorem dX8_digest_180 : decode cX8_digest 180 = .ok (.iconst 3, 1) := by decide +kernel
theorem dX8_digest_181 : decode cX8_digest 181 = .ok (.invokevirtual 293, 3) := by decide +kernel
theorem dX8_digest_184 : decode cX8_digest 184 = .ok (.i2l, 1) := by decide +kernel
theorem dX8_digest_185 : decode cX8_digest 185 = .ok (.ladd, 1) := by decide +kernel
theorem dX8_digest_186 : decode cX8_digest 186 = .ok (.lstore_n 1, 1) := by decide +kernel
theorem dX8_digest_187 : decode cX8_digest 187 = .ok (.iinc 7 1, 3) := by decide +kernel
theorem dX8_digest_190 : decode cX8_digest 190 = .ok (.goto (-123), 3) := by decide +kernel
theorem dX8_digest_193 : decode cX8_digest 193 = .ok (.ldc2_w 315, 3) := by decide +kernel
theorem dX8_digest_196 : decode cX8_digest 196 = .ok (.lload_n 1, 1) := by decide +kernel
theorem dX8_digest_197 : decode cX8_digest 197 = .ok (.lmul, 1) := by decide +kernel
theorem dX8_digest_198 : decode cX8_digest 198 = .ok (.iload_n 3, 1) := by decide +kernel
theorem dX8_digest_199 : decode cX8_digest 199 = .ok (.i2l, 1) := by decide +kernel
theorem dX8_digest_200 : decode cX8_digest 200 = .ok (.ladd, 1) := by decide +kernel
theorem dX8_digest_201 : decode cX8_digest 201 = .ok (.lstore_n 1, 1) := by decide +kernel
theorem dX8_digest_202 : decode cX8_digest 202 = .ok (.ldc2_w 315, 3) := by decide +kernel
theorem dX8_digest_205 : decode cX8_digest 205 = .ok (.lload_n 1, 1) := by decide +kernel
theorem dX8_digest_206 : decode cX8_digest 206 = .ok (.lmul, 1) := by decide +kernel
theorem dX8_digest_207 : decode cX8_digest 207 = .ok (.iload 4, 2) := by decide +kernel
theorem dX8_digest_209 : decode cX8_digest 209 = .ok (.i2l, 1) := by decide +kernel
theorem dX8_digest_210 : decode cX8_digest 210 = .ok (.ladd, 1) := by decide +kernel
theorem dX8_digest_211 : decode cX8_digest 211 = .ok (.lstore_n 1, 1) := by decide +kernel
theorem dX8_digest_212 : decode cX8_digest 212 = .ok (.iconst 0, 1) := by decide +kernel
theorem dX8_digest_213 : decode cX8_digest 213 = .ok (.istore 7, 2) := by decide +kernel
theorem dX8_digest_215 : decode cX8_digest 215 = .ok (.iload 7, 2) := by decide +kernel
theorem dX8_digest_217 : decode cX8_digest 217 = .ok (.aload_n 0, 1) := by decide +kernel
theorem dX8_digest_218 : decode cX8_digest 218 = .ok (.invokevirtual 111, 3) := by decide +kernel
theorem dX8_digest_221 : decode cX8_digest 221 = .ok (.if_icmp .ge 23, 3) := by decide +kernel
theorem dX8_digest_224 : decode cX8_digest 224 = .ok (.aload_n 0, 1) := by decide +kernel
theorem dX8_digest_225 : decode cX8_digest 225 = .ok (.getfield 73, 3) := by decide +kernel
theorem dX8_digest_228 : decode cX8_digest 228 = .ok (.iload 7, 2) := by decide +kernel
theorem dX8_digest_230 : decode cX8_digest 230 = .ok (.aload_n 0, 1) := by decide +kernel
theorem dX8_digest_231 : decode cX8_digest 231 = .ok (.getfield 55, 3) := by decide +kernel
theorem dX8_digest_234 : decode cX8_digest 234 = .ok (.iload 7, 2) := by decide +kernel
theorem dX8_digest_236 : decode cX8_digest 236 = .ok (.iaload, 1) := by decide +kernel
theorem dX8_digest_237 : decode cX8_digest 237 = .ok (.iastore, 1) := by decide +kernel
theorem dX8_digest_238 : decode cX8_digest 238 = .ok (.iinc 7 1, 3) := by decide +kernel
theorem dX8_digest_241 : decode cX8_digest 241 = .ok (.goto (-26), 3) := by decide +kernel
theorem dX8_digest_244 : decode cX8_digest 244 = .ok (.iconst 0, 1) := by decide +kernel
theorem dX8_digest_245 : decode cX8_digest 245 = .ok (.istore 7, 2) := by decide +kernel
theorem dX8_digest_247 : decode cX8_digest 247 = .ok (.iload 7, 2) := by decide +kernel
theorem dX8_digest_249 : decode cX8_digest 249 = .ok (.aload_n 0, 1) := by decide +kernel
theorem dX8_digest_250 : decode cX8_digest 250 = .ok (.invokevirtual 111, 3) := by decide +kernel
theorem dX8_digest_253 : decode cX8_digest 253 = .ok (.if_icmp .ge 120, 3) := by decide +kernel
theorem dX8_digest_256 : decode cX8_digest 256 = .ok (.ldc2_w 315, 3) := by decide +kernel
theorem dX8_digest_259 : decode cX8_digest 259 = .ok (.lload_n 1, 1) := by decide +kernel
theorem dX8_digest_260 : decode cX8_digest 260 = .ok (.lmul, 1) := by decide +kernel
theorem dX8_digest_261 : decode cX8_digest 261 = .ok (.aload_n 0, 1) := by decide +kernel
theorem dX8_digest_262 : decode cX8_digest 262 = .ok (.getfield 73, 3) := by decide +kernel
theorem dX8_digest_265 : decode cX8_digest 265 = .ok (.iload 7, 2) := by decide +kernel
theorem dX8_digest_267 : decode cX8_digest 267 = .ok (.iaload, 1) := by decide +kernel
theorem dX8_digest_268 : decode cX8_digest 268 = .ok (.i2l, 1) := by decide +kernel
theorem dX8_digest_269 : decode cX8_digest 269 = .ok (.ladd, 1) := by decide +kernel
theorem dX8_digest_270 : decode cX8_digest 270 = .ok (.lstore_n 1, 1) := by decide +kernel
theorem dX8_digest_271 : decode cX8_digest 271 = .ok (.ldc2_w 315, 3) := by decide +kernel
theorem dX8_digest_274 : decode cX8_digest 274 = .ok (.lload_n 1, 1) := by decide +kernel
theorem dX8_digest_275 : decode cX8_digest 275 = .ok (.lmul, 1) := by decide +kernel
theorem dX8_digest_276 : decode cX8_digest 276 = .ok (.aload_n 0, 1) := by decide +kernel
theorem dX8_digest_277 : decode cX8_digest 277 = .ok (.iload 7, 2) := by decide +kernel
theorem dX8_digest_279 : decode cX8_digest 279 = .ok (.iconst 0, 1) := by decide +kernel
theorem dX8_digest_280 : decode cX8_digest 280 = .ok (.invokevirtual 252, 3) := by decide +kernel
theorem dX8_digest_283 : decode cX8_digest 283 = .ok (.i2l, 1) := by decide +kernel
theorem dX8_digest_284 : decode cX8_digest 284 = .ok (.ladd, 1) := by decide +kernel
theorem dX8_digest_285 : decode cX8_digest 285 = .ok (.lstore_n 1, 1) := by decide +kernel
theorem dX8_digest_286 : decode cX8_digest 286 = .ok (.ldc2_w 315, 3) := by decide +kernel
theorem dX8_digest_289 : decode cX8_digest 289 = .ok (.lload_n 1, 1) := by decide +kernel
theorem dX8_digest_290 : decode cX8_digest 290 = .ok (.lmul, 1) := by decide +kernel
theorem dX8_digest_291 : decode cX8_digest 291 = .ok (.aload_n 0, 1) := by decide +kernel
theorem dX8_digest_292 : decode cX8_digest 292 = .ok (.iload 7, 2) := by decide +kernel
theorem dX8_digest_294 : decode cX8_digest 294 = .ok (.iconst 1, 1) := by decide +kernel
theorem dX8_digest_295 : decode cX8_digest 295 = .ok (.invokevirtual 252, 3) := by decide +kernel
theorem dX8_digest_298 : decode cX8_digest 298 = .ok (.i2l, 1) := by decide +kernel
theorem dX8_digest_299 : decode cX8_digest 299 = .ok (.ladd, 1) := by decide +kernel
theorem dX8_digest_300 : decode cX8_digest 300 = .ok (.lstore_n 1, 1) := by decide +kernel
theorem dX8_digest_301 : decode cX8_digest 301 = .ok (.ldc2_w 315, 3) := by decide +kernel
theorem dX8_digest_304 : decode cX8_digest 304 = .ok (.lload_n 1, 1) := by decide +kernel
theorem dX8_digest_305 : decode cX8_digest 305 = .ok (.lmul, 1) := by decide +kernel
theorem dX8_digest_306 : decode cX8_digest 306 = .ok (.aload_n 0, 1) := by decide +kernel
theorem dX8_digest_307 : decode cX8_digest 307 = .ok (.iload 7, 2) := by decide +kernel
theorem dX8_digest_309 : decode cX8_digest 309 = .ok (.invokevirtual 273, 3) := by decide +kernel
theorem dX8_digest_312 : decode cX8_digest 312 = .ok (.i2l, 1) := by decide +kernel
theorem dX8_digest_313 : decode cX8_digest 313 = .ok (.ladd, 1) := by decide +kernel
theorem dX8_digest_314 : decode cX8_digest 314 = .ok (.lstore_n 1, 1) := by decide +kernel
theorem dX8_digest_315 : decode cX8_digest 315 = .ok (.iload 7, 2) := by decide +kernel
theorem dX8_digest_317 : decode cX8_digest 317 = .ok (.iconst 1, 1) := by decide +kernel
theorem dX8_digest_318 : decode cX8_digest 318 = .ok (.iadd, 1) := by decide +kernel
theorem dX8_digest_319 : decode cX8_digest 319 = .ok (.aload_n 0, 1) := by decide +kernel
theorem dX8_digest_320 : decode cX8_digest 320 = .ok (.invokevirtual 111, 3) := by decide +kernel
theorem dX8_digest_323 : decode cX8_digest 323 = .ok (.irem, 1) := by decide +kernel
theorem dX8_digest_324 : decode cX8_digest 324 = .ok (.istore 8, 2) := by decide +kernel
theorem dX8_digest_326 : decode cX8_digest 326 = .ok (.iconst 0, 1) := by decide +kernel
theorem dX8_digest_327 : decode cX8_digest 327 = .ok (.istore 9, 2) := by decide +kernel
theorem dX8_digest_329 : decode cX8_digest 329 = .ok (.iload 9, 2) := by decide +kernel
theorem dX8_digest_331 : decode cX8_digest 331 = .ok (.iconst 2, 1) := by decide +kernel
theorem dX8_digest_332 : decode cX8_digest 332 = .ok (.if_icmp .ge 35, 3) := by decide +kernel
theorem dX8_digest_335 : decode cX8_digest 335 = .ok (.ldc2_w 315, 3) := by decide +kernel
theorem dX8_digest_338 : decode cX8_digest 338 = .ok (.lload_n 1, 1) := by decide +kernel
theorem dX8_digest_339 : decode cX8_digest 339 = .ok (.lmul, 1) := by decide +kernel
theorem dX8_digest_340 : decode cX8_digest 340 = .ok (.aload_n 0, 1) := by decide +kernel
theorem dX8_digest_341 : decode cX8_digest 341 = .ok (.iload 7, 2) := by decide +kernel
theorem dX8_digest_343 : decode cX8_digest 343 = .ok (.iload 8, 2) := by decide +kernel
theorem dX8_digest_345 : decode cX8_digest 345 = .ok (.iload 9, 2) := by decide +kernel
theorem dX8_digest_347 : decode cX8_digest 347 = .ok (.invokevirtual 185, 3) := by decide +kernel
theorem dX8_digest_350 : decode cX8_digest 350 = .ok (.ifCond .eq 7, 3) := by decide +kernel
theorem dX8_digest_353 : decode cX8_digest 353 = .ok (.iconst 1, 1) := by decide +kernel
theorem dX8_digest_354 : decode cX8_digest 354 = .ok (.goto 4, 3) := by decide +kernel
theorem dX8_digest_357 : decode cX8_digest 357 = .ok (.iconst 0, 1) := by decide +kernel
theorem dX8_digest_358 : decode cX8_digest 358 = .ok (.i2l, 1) := by decide +kernel
theorem dX8_digest_359 : decode cX8_digest 359 = .ok (.ladd, 1) := by decide +kernel
theorem dX8_digest_360 : decode cX8_digest 360 = .ok (.lstore_n 1, 1) := by decide +kernel
theorem dX8_digest_361 : decode cX8_digest 361 = .ok (.iinc 9 1, 3) := by decide +kernel
theorem dX8_digest_364 : decode cX8_digest 364 = .ok (.goto (-35), 3) := by decide +kernel
theorem dX8_digest_367 : decode cX8_digest 367 = .ok (.iinc 7 1, 3) := by decide +kernel
theorem dX8_digest_370 : decode cX8_digest 370 = .ok (.goto (-123), 3) := by decide +kernel
theorem dX8_digest_373 : decode cX8_digest 373 = .ok (.iconst 0, 1) := by decide +kernel
theorem dX8_digest_374 : decode cX8_digest 374 = .ok (.istore 7, 2) := by decide +kernel
theorem dX8_digest_376 : decode cX8_digest 376 = .ok (.iload 7, 2) := by decide +kernel
theorem dX8_digest_378 : decode cX8_digest 378 = .ok (.iconst 4, 1) := by decide +kernel
theorem dX8_digest_379 : decode cX8_digest 379 = .ok (.if_icmp .ge 28, 3) := by decide +kernel
theorem dX8_digest_382 : decode cX8_digest 382 = .ok (.ldc2_w 315, 3) := by decide +kernel
theorem dX8_digest_385 : decode cX8_digest 385 = .ok (.lload_n 1, 1) := by decide +kernel
theorem dX8_digest_386 : decode cX8_digest 386 = .ok (.lmul, 1) := by decide +kernel
theorem dX8_digest_387 : decode cX8_digest 387 = .ok (.aload_n 0, 1) := by decide +kernel
theorem dX8_digest_388 : decode cX8_digest 388 = .ok (.iload 7, 2) := by decide +kernel
theorem dX8_digest_390 : decode cX8_digest 390 = .ok (.iconst 2, 1) := by decide +kernel
theorem dX8_digest_391 : decode cX8_digest 391 = .ok (.idiv, 1) := by decide +kernel
theorem dX8_digest_392 : decode cX8_digest 392 = .ok (.iload 7, 2) := by decide +kernel
theorem dX8_digest_394 : decode cX8_digest 394 = .ok (.iconst 2, 1) := by decide +kernel
theorem dX8_digest_395 : decode cX8_digest 395 = .ok (.irem, 1) := by decide +kernel
theorem dX8_digest_396 : decode cX8_digest 396 = .ok (.invokevirtual 245, 3) := by decide +kernel
theorem dX8_digest_399 : decode cX8_digest 399 = .ok (.ladd, 1) := by decide +kernel
theorem dX8_digest_400 : decode cX8_digest 400 = .ok (.lstore_n 1, 1) := by decide +kernel
theorem dX8_digest_401 : decode cX8_digest 401 = .ok (.iinc 7 1, 3) := by decide +kernel
theorem dX8_digest_404 : decode cX8_digest 404 = .ok (.goto (-28), 3) := by decide +kernel
theorem dX8_digest_407 : decode cX8_digest 407 = .ok (.ldc2_w 315, 3) := by decide +kernel
theorem dX8_digest_410 : decode cX8_digest 410 = .ok (.lload_n 1, 1) := by decide +kernel
theorem dX8_digest_411 : decode cX8_digest 411 = .ok (.lmul, 1) := by decide +kernel
theorem dX8_digest_412 : decode cX8_digest 412 = .ok (.iload 5, 2) := by decide +kernel
theorem dX8_digest_414 : decode cX8_digest 414 = .ok (.i2l, 1) := by decide +kernel
theorem dX8_digest_415 : decode cX8_digest 415 = .ok (.ladd, 1) := by decide +kernel
theorem dX8_digest_416 : decode cX8_digest 416 = .ok (.lstore_n 1, 1) := by decide +kernel
theorem dX8_digest_417 : decode cX8_digest 417 = .ok (.ldc2_w 315, 3) := by decide +kernel
theorem dX8_digest_420 : decode cX8_digest 420 = .ok (.lload_n 1, 1) := by decide +kernel
theorem dX8_digest_421 : decode cX8_digest 421 = .ok (.lmul, 1) := by decide +kernel
theorem dX8_digest_422 : decode cX8_digest 422 = .ok (.aload_n 0, 1) := by decide +kernel
theorem dX8_digest_423 : decode cX8_digest 423 = .ok (.iconst 0, 1) := by decide +kernel
theorem dX8_digest_424 : decode cX8_digest 424 = .ok (.invokevirtual 255, 3) := by decide +kernel
theorem dX8_digest_427 : decode cX8_digest 427 = .ok (.i2l, 1) := by decide +kernel
theorem dX8_digest_428 : decode cX8_digest 428 = .ok (.ladd, 1) := by decide +kernel
theorem dX8_digest_429 : decode cX8_digest 429 = .ok (.lstore_n 1, 1) := by decide +kernel
theorem dX8_digest_430 : decode cX8_digest 430 = .ok (.ldc2_w 315, 3) := by decide +kernel
theorem dX8_digest_433 : decode cX8_digest 433 = .ok (.lload_n 1, 1) := by decide +kernel
theorem dX8_digest_434 : decode cX8_digest 434 = .ok (.lmul, 1) := by decide +kernel
theorem dX8_digest_435 : decode cX8_digest 435 = .ok (.aload_n 0, 1) := by decide +kernel
theorem dX8_digest_436 : decode cX8_digest 436 = .ok (.iconst 1, 1) := by decide +kernel
theorem dX8_digest_437 : decode cX8_digest 437 = .ok (.invokevirtual 255, 3) := by decide +kernel
theorem dX8_digest_440 : decode cX8_digest 440 = .ok (.i2l, 1) := by decide +kernel
theorem dX8_digest_441 : decode cX8_digest 441 = .ok (.ladd, 1) := by decide +kernel
theorem dX8_digest_442 : decode cX8_digest 442 = .ok (.lstore_n 1, 1) := by decide +kernel
theorem dX8_digest_443 : decode cX8_digest 443 = .ok (.ldc2_w 315, 3) := by decide +kernel
theorem dX8_digest_446 : decode cX8_digest 446 = .ok (.lload_n 1, 1) := by decide +kernel
theorem dX8_digest_447 : decode cX8_digest 447 = .ok (.lmul, 1) := by decide +kernel
theorem dX8_digest_448 : decode cX8_digest 448 = .ok (.aload_n 0, 1) := by decide +kernel
theorem dX8_digest_449 : decode cX8_digest 449 = .ok (.iconst (-1), 1) := by decide +kernel
theorem dX8_digest_450 : decode cX8_digest 450 = .ok (.invokevirtual 264, 3) := by decide +kernel
theorem dX8_digest_453 : decode cX8_digest 453 = .ok (.i2l, 1) := by decide +kernel
theorem dX8_digest_454 : decode cX8_digest 454 = .ok (.ladd, 1) := by decide +kernel
theorem dX8_digest_455 : decode cX8_digest 455 = .ok (.lstore_n 1, 1) := by decide +kernel
theorem dX8_digest_456 : decode cX8_digest 456 = .ok (.ldc2_w 315, 3) := by decide +kernel
theorem dX8_digest_459 : decode cX8_digest 459 = .ok (.lload_n 1, 1) := by decide +kernel
theorem dX8_digest_460 : decode cX8_digest 460 = .ok (.lmul, 1) := by decide +kernel
theorem dX8_digest_461 : decode cX8_digest 461 = .ok (.aload_n 0, 1) := by decide +kernel
theorem dX8_digest_462 : decode cX8_digest 462 = .ok (.invokevirtual 270, 3) := by decide +kernel
theorem dX8_digest_465 : decode cX8_digest 465 = .ok (.i2l, 1) := by decide +kernel
theorem dX8_digest_466 : decode cX8_digest 466 = .ok (.ladd, 1) := by decide +kernel
theorem dX8_digest_467 : decode cX8_digest 467 = .ok (.lstore_n 1, 1) := by decide +kernel
theorem dX8_digest_468 : decode cX8_digest 468 = .ok (.ldc2_w 315, 3) := by decide +kernel
theorem dX8_digest_471 : decode cX8_digest 471 = .ok (.lload_n 1, 1) := by decide +kernel
theorem dX8_digest_472 : decode cX8_digest 472 = .ok (.lmul, 1) := by decide +kernel
theorem dX8_digest_473 : decode cX8_digest 473 = .ok (.aload_n 0, 1) := by decide +kernel
theorem dX8_digest_474 : decode cX8_digest 474 = .ok (.iconst 0, 1) := by decide +kernel
theorem dX8_digest_475 : decode cX8_digest 475 = .ok (.iconst 0, 1) := by decide +kernel
theorem dX8_digest_476 : decode cX8_digest 476 = .ok (.iconst 0, 1) := by decide +kernel
theorem dX8_digest_477 : decode cX8_digest 477 = .ok (.invokevirtual 279, 3) := by decide +kernel
theorem dX8_digest_480 : decode cX8_digest 480 = .ok (.i2l, 1) := by decide +kernel
theorem dX8_digest_481 : decode cX8_digest 481 = .ok (.ladd, 1) := by decide +kernel
theorem dX8_digest_482 : decode cX8_digest 482 = .ok (.lstore_n 1, 1) := by decide +kernel
theorem dX8_digest_483 : decode cX8_digest 483 = .ok (.ldc2_w 315, 3) := by decide +kernel
theorem dX8_digest_486 : decode cX8_digest 486 = .ok (.lload_n 1, 1) := by decide +kernel
theorem dX8_digest_487 : decode cX8_digest 487 = .ok (.lmul, 1) := by decide +kernel
theorem dX8_digest_488 : decode cX8_digest 488 = .ok (.aload_n 0, 1) := by decide +kernel
theorem dX8_digest_489 : decode cX8_digest 489 = .ok (.iconst 0, 1) := by decide +kernel
theorem dX8_digest_490 : decode cX8_digest 490 = .ok (.iconst 0, 1) := by decide +kernel
theorem dX8_digest_491 : decode cX8_digest 491 = .ok (.iconst 1, 1) := by decide +kernel
theorem dX8_digest_492 : decode cX8_digest 492 = .ok (.invokevirtual 279, 3) := by decide +kernel
theorem dX8_digest_495 : decode cX8_digest 495 = .ok (.i2l, 1) := by decide +kernel
theorem dX8_digest_496 : decode cX8_digest 496 = .ok (.ladd, 1) := by decide +kernel
theorem dX8_digest_497 : decode cX8_digest 497 = .ok (.lstore_n 1, 1) := by decide +kernel
theorem dX8_digest_498 : decode cX8_digest 498 = .ok (.ldc2_w 315, 3) := by decide +kernel
theorem dX8_digest_501 : decode cX8_digest 501 = .ok (.lload_n 1, 1) := by decide +kernel
theorem dX8_digest_502 : decode cX8_digest 502 = .ok (.lmul, 1) := by decide +kernel
theorem dX8_digest_503 : decode cX8_digest 503 = .ok (.aload_n 0, 1) := by decide +kernel
theorem dX8_digest_504 : decode cX8_digest 504 = .ok (.iconst 2, 1) := by decide +kernel
theorem dX8_digest_505 : decode cX8_digest 505 = .ok (.iconst (-1), 1) := by decide +kernel
theorem dX8_digest_506 : decode cX8_digest 506 = .ok (.invokevirtual 307, 3) := by decide +kernel
theorem dX8_digest_509 : decode cX8_digest 509 = .ok (.i2l, 1) := by decide +kernel
theorem dX8_digest_510 : decode cX8_digest 510 = .ok (.ladd, 1) := by decide +kernel
theorem dX8_digest_511 : decode cX8_digest 511 = .ok (.lreturn, 1) := by decide +kernel
theorem dJ6_numberOfTrailingZeros_0f7a4_0 : decode cJ6_numberOfTrailingZeros_0f7a4 0 = .ok (.iload_n 0, 1) := by decide +kernel
theorem dJ6_numberOfTrailingZeros_0f7a4_1 : decode cJ6_numberOfTrailingZeros_0f7a4 1 = .ok (.iconst (-1), 1) := by decide +kernel
theorem dJ6_numberOfTrailingZeros_0f7a4_2 : decode cJ6_numberOfTrailingZeros_0f7a4 2 = .ok (.ixor, 1) := by decide +kernel
theorem dJ6_numberOfTrailingZeros_0f7a4_3 : decode cJ6_numberOfTrailingZeros_0f7a4 3 = .ok (.iload_n 0, 1) := by decide +kernel
theorem dJ6_numberOfTrailingZeros_0f7a4_4 : decode cJ6_numberOfTrailingZeros_0f7a4 4 = .ok (.iconst 1, 1) := by decide +kernel
theorem dJ6_numberOfTrailingZeros_0f7a4_5 : decode cJ6_numberOfTrailingZeros_0f7a4 5 = .ok (.isub, 1) := by decide +kernel
theorem dJ6_numberOfTrailingZeros_0f7a4_6 : decode cJ6_numberOfTrailingZeros_0f7a4 6 = .ok (.iand, 1) := by decide +kernel
theorem dJ6_numberOfTrailingZeros_0f7a4_7 : decode cJ6_numberOfTrailingZeros_0f7a4 7 = .ok (.istore_n 0, 1) := by decide +kernel
theorem dJ6_numberOfTrailingZeros_0f7a4_8 : decode cJ6_numberOfTrailingZeros_0f7a4 8 = .ok (.iload_n 0, 1) := by decide +kernel
theorem dJ6_numberOfTrailingZeros_0f7a4_9 : decode cJ6_numberOfTrailingZeros_0f7a4 9 = .ok (.ifCond .gt 8, 3) := by decide +kernel
theorem dJ6_numberOfTrailingZeros_0f7a4_12 : decode cJ6_numberOfTrailingZeros_0f7a4 12 = .ok (.iload_n 0, 1) := by decide +kernel
theorem dJ6_numberOfTrailingZeros_0f7a4_13 : decode cJ6_numberOfTrailingZeros_0f7a4 13 = .ok (.bipush 32, 2) := by decide +kernel
theorem dJ6_numberOfTrailingZeros_0f7a4_15 : decode cJ6_numberOfTrailingZeros_0f7a4 15 = .ok (.iand, 1) := by decide +kernel
theorem dJ6_numberOfTrailingZeros_0f7a4_16 : decode cJ6_numberOfTrailingZeros_0f7a4 16 = .ok (.ireturn, 1) := by decide +kernel
theorem dJ6_numberOfTrailingZeros_0f7a4_17 : decode cJ6_numberOfTrailingZeros_0f7a4 17 = .ok (.iconst 1, 1) := by decide +kernel
theorem dJ6_numberOfTrailingZeros_0f7a4_18 : decode cJ6_numberOfTrailingZeros_0f7a4 18 = .ok (.istore_n 1, 1) := by decide +kernel
theorem dJ6_numberOfTrailingZeros_0f7a4_19 : decode cJ6_numberOfTrailingZeros_0f7a4 19 = .ok (.iload_n 0, 1) := by decide +kernel
theorem dJ6_numberOfTrailingZeros_0f7a4_20 : decode cJ6_numberOfTrailingZeros_0f7a4 20 = .ok (.ldc_w 264, 3) := by decide +kernel
theorem dJ6_numberOfTrailingZeros_0f7a4_23 : decode cJ6_numberOfTrailingZeros_0f7a4 23 = .ok (.if_icmp .le 11, 3) := by decide +kernel
theorem dJ6_numberOfTrailingZeros_0f7a4_26 : decode cJ6_numberOfTrailingZeros_0f7a4 26 = .ok (.iinc 1 16, 3) := by decide +kernel
theorem dJ6_numberOfTrailingZeros_0f7a4_29 : decode cJ6_numberOfTrailingZeros_0f7a4 29 = .ok (.iload_n 0, 1) := by decide +kernel
theorem dJ6_numberOfTrailingZeros_0f7a4_30 : decode cJ6_numberOfTrailingZeros_0f7a4 30 = .ok (.bipush 16, 2) := by decide +kernel
theorem dJ6_numberOfTrailingZeros_0f7a4_32 : decode cJ6_numberOfTrailingZeros_0f7a4 32 = .ok (.iushr, 1) := by decide +kernel
theorem dJ6_numberOfTrailingZeros_0f7a4_33 : decode cJ6_numberOfTrailingZeros_0f7a4 33 = .ok (.istore_n 0, 1) := by decide +kernel
theorem dJ6_numberOfTrailingZeros_0f7a4_34 : decode cJ6_numberOfTrailingZeros_0f7a4 34 = .ok (.iload_n 0, 1) := by decide +kernel
theorem dJ6_numberOfTrailingZeros_0f7a4_35 : decode cJ6_numberOfTrailingZeros_0f7a4 35 = .ok (.sipush 256, 3) := by decide +kernel
theorem dJ6_numberOfTrailingZeros_0f7a4_38 : decode cJ6_numberOfTrailingZeros_0f7a4 38 = .ok (.if_icmp .le 11, 3) := by decide +kernel
theorem dJ6_numberOfTrailingZeros_0f7a4_41 : decode cJ6_numberOfTrailingZeros_0f7a4 41 = .ok (.iinc 1 8, 3) := by decide +kernel
theorem dJ6_numberOfTrailingZeros_0f7a4_44 : decode cJ6_numberOfTrailingZeros_0f7a4 44 = .ok (.iload_n 0, 1) := by decide +kernel
theorem dJ6_numberOfTrailingZeros_0f7a4_45 : decode cJ6_numberOfTrailingZeros_0f7a4 45 = .ok (.bipush 8, 2) := by decide +kernel
theorem dJ6_numberOfTrailingZeros_0f7a4_47 : decode cJ6_numberOfTrailingZeros_0f7a4 47 = .ok (.iushr, 1) := by decide +kernel
theorem dJ6_numberOfTrailingZeros_0f7a4_48 : decode cJ6_numberOfTrailingZeros_0f7a4 48 = .ok (.istore_n 0, 1) := by decide +kernel
theorem dJ6_numberOfTrailingZeros_0f7a4_49 : decode cJ6_numberOfTrailingZeros_0f7a4 49 = .ok (.iload_n 0, 1) := by decide +kernel
theorem dJ6_numberOfTrailingZeros_0f7a4_50 : decode cJ6_numberOfTrailingZeros_0f7a4 50 = .ok (.bipush 16, 2) := by decide +kernel
theorem dJ6_numberOfTrailingZeros_0f7a4_52 : decode cJ6_numberOfTrailingZeros_0f7a4 52 = .ok (.if_icmp .le 10, 3) := by decide +kernel
theorem dJ6_numberOfTrailingZeros_0f7a4_55 : decode cJ6_numberOfTrailingZeros_0f7a4 55 = .ok (.iinc 1 4, 3) := by decide +kernel
theorem dJ6_numberOfTrailingZeros_0f7a4_58 : decode cJ6_numberOfTrailingZeros_0f7a4 58 = .ok (.iload_n 0, 1) := by decide +kernel
theorem dJ6_numberOfTrailingZeros_0f7a4_59 : decode cJ6_numberOfTrailingZeros_0f7a4 59 = .ok (.iconst 4, 1) := by decide +kernel
theorem dJ6_numberOfTrailingZeros_0f7a4_60 : decode cJ6_numberOfTrailingZeros_0f7a4 60 = .ok (.iushr, 1) := by decide +kernel
theorem dJ6_numberOfTrailingZeros_0f7a4_61 : decode cJ6_numberOfTrailingZeros_0f7a4 61 = .ok (.istore_n 0, 1) := by decide +kernel
theorem dJ6_numberOfTrailingZeros_0f7a4_62 : decode cJ6_numberOfTrailingZeros_0f7a4 62 = .ok (.iload_n 0, 1) := by decide +kernel
theorem dJ6_numberOfTrailingZeros_0f7a4_63 : decode cJ6_numberOfTrailingZeros_0f7a4 63 = .ok (.iconst 4, 1) := by decide +kernel
theorem dJ6_numberOfTrailingZeros_0f7a4_64 : decode cJ6_numberOfTrailingZeros_0f7a4 64 = .ok (.if_icmp .le 10, 3) := by decide +kernel
theorem dJ6_numberOfTrailingZeros_0f7a4_67 : decode cJ6_numberOfTrailingZeros_0f7a4 67 = .ok (.iinc 1 2, 3) := by decide +kernel
theorem dJ6_numberOfTrailingZeros_0f7a4_70 : decode cJ6_numberOfTrailingZeros_0f7a4 70 = .ok (.iload_n 0, 1) := by decide +kernel
theorem dJ6_numberOfTrailingZeros_0f7a4_71 : decode cJ6_numberOfTrailingZeros_0f7a4 71 = .ok (.iconst 2, 1) := by decide +kernel
theorem dJ6_numberOfTrailingZeros_0f7a4_72 : decode cJ6_numberOfTrailingZeros_0f7a4 72 = .ok (.iushr, 1) := by decide +kernel
theorem dJ6_numberOfTrailingZeros_0f7a4_73 : decode cJ6_numberOfTrailingZeros_0f7a4 73 = .ok (.istore_n 0, 1) := by decide +kernel
theorem dJ6_numberOfTrailingZeros_0f7a4_74 : decode cJ6_numberOfTrailingZeros_0f7a4 74 = .ok (.iload_n 1, 1) := by decide +kernel
theorem dJ6_numberOfTrailingZeros_0f7a4_75 : decode cJ6_numberOfTrailingZeros_0f7a4 75 = .ok (.iload_n 0, 1) := by decide +kernel
theorem dJ6_numberOfTrailingZeros_0f7a4_76 : decode cJ6_numberOfTrailingZeros_0f7a4 76 = .ok (.iconst 1, 1) := by decide +kernel
theorem dJ6_numberOfTrailingZeros_0f7a4_77 : decode cJ6_numberOfTrailingZeros_0f7a4 77 = .ok (.iushr, 1) := by decide +kernel
theorem dJ6_numberOfTrailingZeros_0f7a4_78 : decode cJ6_numberOfTrailingZeros_0f7a4 78 = .ok (.iadd, 1) := by decide +kernel
theorem dJ6_numberOfTrailingZeros_0f7a4_79 : decode cJ6_numberOfTrailingZeros_0f7a4 79 = .ok (.ireturn, 1) := by decide +kernel
theorem dJ6_bitCount_0f7a4_0 : decode cJ6_bitCount_0f7a4 0 = .ok (.iload_n 0, 1) := by decide +kernel
theorem dJ6_bitCount_0f7a4_1 : decode cJ6_bitCount_0f7a4 1 = .ok (.iload_n 0, 1) := by decide +kernel
theorem dJ6_bitCount_0f7a4_2 : decode cJ6_bitCount_0f7a4 2 = .ok (.iconst 1, 1) := by decide +kernel
theorem dJ6_bitCount_0f7a4_3 : decode cJ6_bitCount_0f7a4 3 = .ok (.iushr, 1) := by decide +kernel
theorem dJ6_bitCount_0f7a4_4 : decode cJ6_bitCount_0f7a4 4 = .ok (.ldc_w 265, 3) := by decide +kernel
theorem dJ6_bitCount_0f7a4_7 : decode cJ6_bitCount_0f7a4 7 = .ok (.iand, 1) := by decide +kernel
theorem dJ6_bitCount_0f7a4_8 : decode cJ6_bitCount_0f7a4 8 = .ok (.isub, 1) := by decide +kernel
theorem dJ6_bitCount_0f7a4_9 : decode cJ6_bitCount_0f7a4 9 = .ok (.istore_n 0, 1) := by decide +kernel
theorem dJ6_bitCount_0f7a4_10 : decode cJ6_bitCount_0f7a4 10 = .ok (.iload_n 0, 1) := by decide +kernel
theorem dJ6_bitCount_0f7a4_11 : decode cJ6_bitCount_0f7a4 11 = .ok (.ldc_w 266, 3) := by decide +kernel
theorem dJ6_bitCount_0f7a4_14 : decode cJ6_bitCount_0f7a4 14 = .ok (.iand, 1) := by decide +kernel
theorem dJ6_bitCount_0f7a4_15 : decode cJ6_bitCount_0f7a4 15 = .ok (.iload_n 0, 1) := by decide +kernel
theorem dJ6_bitCount_0f7a4_16 : decode cJ6_bitCount_0f7a4 16 = .ok (.iconst 2, 1) := by decide +kernel
theorem dJ6_bitCount_0f7a4_17 : decode cJ6_bitCount_0f7a4 17 = .ok (.iushr, 1) := by decide +kernel
theorem dJ6_bitCount_0f7a4_18 : decode cJ6_bitCount_0f7a4 18 = .ok (.ldc_w 266, 3) := by decide +kernel
theorem dJ6_bitCount_0f7a4_21 : decode cJ6_bitCount_0f7a4 21 = .ok (.iand, 1) := by decide +kernel
theorem dJ6_bitCount_0f7a4_22 : decode cJ6_bitCount_0f7a4 22 = .ok (.iadd, 1) := by decide +kernel
theorem dJ6_bitCount_0f7a4_23 : decode cJ6_bitCount_0f7a4 23 = .ok (.istore_n 0, 1) := by decide +kernel
theorem dJ6_bitCount_0f7a4_24 : decode cJ6_bitCount_0f7a4 24 = .ok (.iload_n 0, 1) := by decide +kernel
theorem dJ6_bitCount_0f7a4_25 : decode cJ6_bitCount_0f7a4 25 = .ok (.iload_n 0, 1) := by decide +kernel
theorem dJ6_bitCount_0f7a4_26 : decode cJ6_bitCount_0f7a4 26 = .ok (.iconst 4, 1) := by decide +kernel
theorem dJ6_bitCount_0f7a4_27 : decode cJ6_bitCount_0f7a4 27 = .ok (.iushr, 1) := by decide +kernel
theorem dJ6_bitCount_0f7a4_28 : decode cJ6_bitCount_0f7a4 28 = .ok (.iadd, 1) := by decide +kernel
theorem dJ6_bitCount_0f7a4_29 : decode cJ6_bitCount_0f7a4 29 = .ok (.ldc_w 267, 3) := by decide +kernel
theorem dJ6_bitCount_0f7a4_32 : decode cJ6_bitCount_0f7a4 32 = .ok (.iand, 1) := by decide +kernel
theorem dJ6_bitCount_0f7a4_33 : decode cJ6_bitCount_0f7a4 33 = .ok (.istore_n 0, 1) := by decide +kernel
theorem dJ6_bitCount_0f7a4_34 : decode cJ6_bitCount_0f7a4 34 = .ok (.iload_n 0, 1) := by decide +kernel
theorem dJ6_bitCount_0f7a4_35 : decode cJ6_bitCount_0f7a4 35 = .ok (.iload_n 0, 1) := by decide +kernel
end
section
theorem dJ6_bitCount_0f7a4_36 : decode cJ6_bitCount_0f7a4 36 = .ok (.bipush 8, 2) := by decide +kernel
theorem dJ6_bitCount_0f7a4_38 : decode cJ6_bitCount_0f7a4 38 = .ok (.iushr, 1) := by decide +kernel
theorem dJ6_bitCount_0f7a4_39 : decode cJ6_bitCount_0f7a4 39 = .ok (.iadd, 1) := by decide +kernel
theorem dJ6_bitCount_0f7a4_40 : decode cJ6_bitCount_0f7a4 40 = .ok (.istore_n 0, 1) := by decide +kernel
theorem dJ6_bitCount_0f7a4_41 : decode cJ6_bitCount_0f7a4 41 = .ok (.iload_n 0, 1) := by decide +kernel
theorem dJ6_bitCount_0f7a4_42 : decode cJ6_bitCount_0f7a4 42 = .ok (.iload_n 0, 1) := by decide +kernel
theorem dJ6_bitCount_0f7a4_43 : decode cJ6_bitCount_0f7a4 43 = .ok (.bipush 16, 2) := by decide +kernel
theorem dJ6_bitCount_0f7a4_45 : decode cJ6_bitCount_0f7a4 45 = .ok (.iushr, 1) := by decide +kernel
theorem dJ6_bitCount_0f7a4_46 : decode cJ6_bitCount_0f7a4 46 = .ok (.iadd, 1) := by decide +kernel
theorem dJ6_bitCount_0f7a4_47 : decode cJ6_bitCount_0f7a4 47 = .ok (.istore_n 0, 1) := by decide +kernel
theorem dJ6_bitCount_0f7a4_48 : decode cJ6_bitCount_0f7a4 48 = .ok (.iload_n 0, 1) := by decide +kernel
theorem dJ6_bitCount_0f7a4_49 : decode cJ6_bitCount_0f7a4 49 = .ok (.bipush 63, 2) := by decide +kernel
theorem dJ6_bitCount_0f7a4_51 : decode cJ6_bitCount_0f7a4 51 = .ok (.iand, 1) := by decide +kernel
theorem dJ6_bitCount_0f7a4_52 : decode cJ6_bitCount_0f7a4 52 = .ok (.ireturn, 1) := by decide +kernel
theorem dJ9_max_7cf53_0 : decode cJ9_max_7cf53 0 = .ok (.iload_n 0, 1) := by decide +kernel
theorem dJ9_max_7cf53_1 : decode cJ9_max_7cf53 1 = .ok (.iload_n 1, 1) := by decide +kernel
theorem dJ9_max_7cf53_2 : decode cJ9_max_7cf53 2 = .ok (.if_icmp .lt 7, 3) := by decide +kernel
theorem dJ9_max_7cf53_5 : decode cJ9_max_7cf53 5 = .ok (.iload_n 0, 1) := by decide +kernel
theorem dJ9_max_7cf53_6 : decode cJ9_max_7cf53 6 = .ok (.goto 4, 3) := by decide +kernel
theorem dJ9_max_7cf53_9 : decode cJ9_max_7cf53 9 = .ok (.iload_n 1, 1) := by decide +kernel
theorem dJ9_max_7cf53_10 : decode cJ9_max_7cf53 10 = .ok (.ireturn, 1) := by decide +kernel
theorem dJ9_min_7cf53_0 : decode cJ9_min_7cf53 0 = .ok (.iload_n 0, 1) := by decide +kernel
theorem dJ9_min_7cf53_1 : decode cJ9_min_7cf53 1 = .ok (.iload_n 1, 1) := by decide +kernel
theorem dJ9_min_7cf53_2 : decode cJ9_min_7cf53 2 = .ok (.if_icmp .gt 7, 3) := by decide +kernel
theorem dJ9_min_7cf53_5 : decode cJ9_min_7cf53 5 = .ok (.iload_n 0, 1) := by decide +kernel
theorem dJ9_min_7cf53_6 : decode cJ9_min_7cf53 6 = .ok (.goto 4, 3) := by decide +kernel
theorem dJ9_min_7cf53_9 : decode cJ9_min_7cf53 9 = .ok (.iload_n 1, 1) := by decide +kernel
theorem dJ9_min_7cf53_10 : decode cJ9_min_7cf53 10 = .ok (.ireturn, 1) := by decide +kernel
theorem dJ7_fill_d0a16_0 : decode cJ7_fill_d0a16 0 = .ok (.iconst 0, 1) := by decide +kernel
theorem dJ7_fill_d0a16_1 : decode cJ7_fill_d0a16 1 = .ok (.istore_n 3, 1) := by decide +kernel
theorem dJ7_fill_d0a16_2 : decode cJ7_fill_d0a16 2 = .ok (.aload_n 0, 1) := by decide +kernel
theorem dJ7_fill_d0a16_3 : decode cJ7_fill_d0a16 3 = .ok (.arraylength, 1) := by decide +kernel
theorem dJ7_fill_d0a16_4 : decode cJ7_fill_d0a16 4 = .ok (.istore 4, 2) := by decide +kernel
theorem dJ7_fill_d0a16_6 : decode cJ7_fill_d0a16 6 = .ok (.iload_n 3, 1) := by decide +kernel
theorem dJ7_fill_d0a16_7 : decode cJ7_fill_d0a16 7 = .ok (.iload 4, 2) := by decide +kernel
theorem dJ7_fill_d0a16_9 : decode cJ7_fill_d0a16 9 = .ok (.if_icmp .ge 13, 3) := by decide +kernel
theorem dJ7_fill_d0a16_12 : decode cJ7_fill_d0a16 12 = .ok (.aload_n 0, 1) := by decide +kernel
theorem dJ7_fill_d0a16_13 : decode cJ7_fill_d0a16 13 = .ok (.iload_n 3, 1) := by decide +kernel
theorem dJ7_fill_d0a16_14 : decode cJ7_fill_d0a16 14 = .ok (.lload_n 1, 1) := by decide +kernel
theorem dJ7_fill_d0a16_15 : decode cJ7_fill_d0a16 15 = .ok (.lastore, 1) := by decide +kernel
theorem dJ7_fill_d0a16_16 : decode cJ7_fill_d0a16 16 = .ok (.iinc 3 1, 3) := by decide +kernel
theorem dJ7_fill_d0a16_19 : decode cJ7_fill_d0a16 19 = .ok (.goto (-13), 3) := by decide +kernel
theorem dJ7_fill_d0a16_22 : decode cJ7_fill_d0a16 22 = .ok (.return_, 1) := by decide +kernel
theorem dJ7_fill_53178_0 : decode cJ7_fill_53178 0 = .ok (.iconst 0, 1) := by decide +kernel
theorem dJ7_fill_53178_1 : decode cJ7_fill_53178 1 = .ok (.istore_n 2, 1) := by decide +kernel
theorem dJ7_fill_53178_2 : decode cJ7_fill_53178 2 = .ok (.aload_n 0, 1) := by decide +kernel
theorem dJ7_fill_53178_3 : decode cJ7_fill_53178 3 = .ok (.arraylength, 1) := by decide +kernel
theorem dJ7_fill_53178_4 : decode cJ7_fill_53178 4 = .ok (.istore_n 3, 1) := by decide +kernel
theorem dJ7_fill_53178_5 : decode cJ7_fill_53178 5 = .ok (.iload_n 2, 1) := by decide +kernel
theorem dJ7_fill_53178_6 : decode cJ7_fill_53178 6 = .ok (.iload_n 3, 1) := by decide +kernel
theorem dJ7_fill_53178_7 : decode cJ7_fill_53178 7 = .ok (.if_icmp .ge 13, 3) := by decide +kernel
theorem dJ7_fill_53178_10 : decode cJ7_fill_53178 10 = .ok (.aload_n 0, 1) := by decide +kernel
theorem dJ7_fill_53178_11 : decode cJ7_fill_53178 11 = .ok (.iload_n 2, 1) := by decide +kernel
theorem dJ7_fill_53178_12 : decode cJ7_fill_53178 12 = .ok (.iload_n 1, 1) := by decide +kernel
theorem dJ7_fill_53178_13 : decode cJ7_fill_53178 13 = .ok (.iastore, 1) := by decide +kernel
theorem dJ7_fill_53178_14 : decode cJ7_fill_53178 14 = .ok (.iinc 2 1, 3) := by decide +kernel
theorem dJ7_fill_53178_17 : decode cJ7_fill_53178 17 = .ok (.goto (-12), 3) := by decide +kernel
theorem dJ7_fill_53178_20 : decode cJ7_fill_53178 20 = .ok (.return_, 1) := by decide +kernel
theorem dL_law_0 : decode cL_law 0 = .ok (.new 7, 3) := by decide +kernel
theorem dL_law_3 : decode cL_law 3 = .ok (.dup, 1) := by decide +kernel
theorem dL_law_4 : decode cL_law 4 = .ok (.invokespecial 9, 3) := by decide +kernel
theorem dL_law_7 : decode cL_law 7 = .ok (.astore_n 1, 1) := by decide +kernel
theorem dL_law_8 : decode cL_law 8 = .ok (.new 10, 3) := by decide +kernel
theorem dL_law_11 : decode cL_law 11 = .ok (.dup, 1) := by decide +kernel
theorem dL_law_12 : decode cL_law 12 = .ok (.invokespecial 12, 3) := by decide +kernel
theorem dL_law_15 : decode cL_law 15 = .ok (.astore_n 2, 1) := by decide +kernel
theorem dL_law_16 : decode cL_law 16 = .ok (.iconst 0, 1) := by decide +kernel
theorem dL_law_17 : decode cL_law 17 = .ok (.istore_n 3, 1) := by decide +kernel
theorem dL_law_18 : decode cL_law 18 = .ok (.iload_n 3, 1) := by decide +kernel
theorem dL_law_19 : decode cL_law 19 = .ok (.aload_n 0, 1) := by decide +kernel
theorem dL_law_20 : decode cL_law 20 = .ok (.arraylength, 1) := by decide +kernel
theorem dL_law_21 : decode cL_law 21 = .ok (.bipush 6, 2) := by decide +kernel
theorem dL_law_23 : decode cL_law 23 = .ok (.isub, 1) := by decide +kernel
theorem dL_law_24 : decode cL_law 24 = .ok (.if_icmp .gt 1319, 3) := by decide +kernel
theorem dL_law_27 : decode cL_law 27 = .ok (.aload_n 0, 1) := by decide +kernel
theorem dL_law_28 : decode cL_law 28 = .ok (.iload_n 3, 1) := by decide +kernel
theorem dL_law_29 : decode cL_law 29 = .ok (.iaload, 1) := by decide +kernel
theorem dL_law_30 : decode cL_law 30 = .ok (.bipush 63, 2) := by decide +kernel
theorem dL_law_32 : decode cL_law 32 = .ok (.iand, 1) := by decide +kernel
theorem dL_law_33 : decode cL_law 33 = .ok (.tableswitch 1304 0 34 #[155, 188, 241, 284, 317, 340, 353, 366, 409, 442, 465, 488, 521, 544, 578, 591, 624, 647, 670, 703, 736, 749, 772, 815, 879, 943, 986, 1019, 1062, 1085, 1138, 1181, 1244, 1267, 1290], 155) := by decide +kernel
theorem dL_law_188 : decode cL_law 188 = .ok (.aload_n 1, 1) := by decide +kernel
theorem dL_law_189 : decode cL_law 189 = .ok (.aload_n 0, 1) := by decide +kernel
theorem dL_law_190 : decode cL_law 190 = .ok (.iload_n 3, 1) := by decide +kernel
theorem dL_law_191 : decode cL_law 191 = .ok (.iconst 1, 1) := by decide +kernel
theorem dL_law_192 : decode cL_law 192 = .ok (.iadd, 1) := by decide +kernel
theorem dL_law_193 : decode cL_law 193 = .ok (.iaload, 1) := by decide +kernel
theorem dL_law_194 : decode cL_law 194 = .ok (.aload_n 0, 1) := by decide +kernel
theorem dL_law_195 : decode cL_law 195 = .ok (.iload_n 3, 1) := by decide +kernel
theorem dL_law_196 : decode cL_law 196 = .ok (.iconst 2, 1) := by decide +kernel
theorem dL_law_197 : decode cL_law 197 = .ok (.iadd, 1) := by decide +kernel
theorem dL_law_198 : decode cL_law 198 = .ok (.iaload, 1) := by decide +kernel
theorem dL_law_199 : decode cL_law 199 = .ok (.invokevirtual 13, 3) := by decide +kernel
theorem dL_law_202 : decode cL_law 202 = .ok (.aload_n 2, 1) := by decide +kernel
theorem dL_law_203 : decode cL_law 203 = .ok (.aload_n 0, 1) := by decide +kernel
theorem dL_law_204 : decode cL_law 204 = .ok (.iload_n 3, 1) := by decide +kernel
theorem dL_law_205 : decode cL_law 205 = .ok (.iconst 1, 1) := by decide +kernel
theorem dL_law_206 : decode cL_law 206 = .ok (.iadd, 1) := by decide +kernel
theorem dL_law_207 : decode cL_law 207 = .ok (.iaload, 1) := by decide +kernel
theorem dL_law_208 : decode cL_law 208 = .ok (.aload_n 0, 1) := by decide +kernel
theorem dL_law_209 : decode cL_law 209 = .ok (.iload_n 3, 1) := by decide +kernel
theorem dL_law_210 : decode cL_law 210 = .ok (.iconst 2, 1) := by decide +kernel
theorem dL_law_211 : decode cL_law 211 = .ok (.iadd, 1) := by decide +kernel
theorem dL_law_212 : decode cL_law 212 = .ok (.iaload, 1) := by decide +kernel
theorem dL_law_213 : decode cL_law 213 = .ok (.invokevirtual 17, 3) := by decide +kernel
theorem dL_law_216 : decode cL_law 216 = .ok (.if_icmp .eq 1121, 3) := by decide +kernel
theorem dL_law_219 : decode cL_law 219 = .ok (.iconst 0, 1) := by decide +kernel
theorem dL_law_220 : decode cL_law 220 = .ok (.ireturn, 1) := by decide +kernel
theorem dL_law_221 : decode cL_law 221 = .ok (.aload_n 1, 1) := by decide +kernel
theorem dL_law_222 : decode cL_law 222 = .ok (.aload_n 0, 1) := by decide +kernel
theorem dL_law_223 : decode cL_law 223 = .ok (.iload_n 3, 1) := by decide +kernel
theorem dL_law_224 : decode cL_law 224 = .ok (.iconst 1, 1) := by decide +kernel
theorem dL_law_225 : decode cL_law 225 = .ok (.iadd, 1) := by decide +kernel
theorem dL_law_226 : decode cL_law 226 = .ok (.iaload, 1) := by decide +kernel
theorem dL_law_227 : decode cL_law 227 = .ok (.aload_n 0, 1) := by decide +kernel
theorem dL_law_228 : decode cL_law 228 = .ok (.iload_n 3, 1) := by decide +kernel
theorem dL_law_229 : decode cL_law 229 = .ok (.iconst 2, 1) := by decide +kernel
theorem dL_law_230 : decode cL_law 230 = .ok (.iadd, 1) := by decide +kernel
theorem dL_law_231 : decode cL_law 231 = .ok (.iaload, 1) := by decide +kernel
theorem dL_law_232 : decode cL_law 232 = .ok (.aload_n 0, 1) := by decide +kernel
theorem dL_law_233 : decode cL_law 233 = .ok (.iload_n 3, 1) := by decide +kernel
theorem dL_law_234 : decode cL_law 234 = .ok (.iconst 3, 1) := by decide +kernel
theorem dL_law_235 : decode cL_law 235 = .ok (.iadd, 1) := by decide +kernel
theorem dL_law_236 : decode cL_law 236 = .ok (.iaload, 1) := by decide +kernel
theorem dL_law_237 : decode cL_law 237 = .ok (.aload_n 0, 1) := by decide +kernel
theorem dL_law_238 : decode cL_law 238 = .ok (.iload_n 3, 1) := by decide +kernel
theorem dL_law_239 : decode cL_law 239 = .ok (.iconst 4, 1) := by decide +kernel
theorem dL_law_240 : decode cL_law 240 = .ok (.iadd, 1) := by decide +kernel
theorem dL_law_241 : decode cL_law 241 = .ok (.iaload, 1) := by decide +kernel
theorem dL_law_242 : decode cL_law 242 = .ok (.invokevirtual 18, 3) := by decide +kernel
theorem dL_law_245 : decode cL_law 245 = .ok (.aload_n 2, 1) := by decide +kernel
theorem dL_law_246 : decode cL_law 246 = .ok (.aload_n 0, 1) := by decide +kernel
theorem dL_law_247 : decode cL_law 247 = .ok (.iload_n 3, 1) := by decide +kernel
theorem dL_law_248 : decode cL_law 248 = .ok (.iconst 1, 1) := by decide +kernel
theorem dL_law_249 : decode cL_law 249 = .ok (.iadd, 1) := by decide +kernel
theorem dL_law_250 : decode cL_law 250 = .ok (.iaload, 1) := by decide +kernel
theorem dL_law_251 : decode cL_law 251 = .ok (.aload_n 0, 1) := by decide +kernel
theorem dL_law_252 : decode cL_law 252 = .ok (.iload_n 3, 1) := by decide +kernel
theorem dL_law_253 : decode cL_law 253 = .ok (.iconst 2, 1) := by decide +kernel
theorem dL_law_254 : decode cL_law 254 = .ok (.iadd, 1) := by decide +kernel
theorem dL_law_255 : decode cL_law 255 = .ok (.iaload, 1) := by decide +kernel
theorem dL_law_256 : decode cL_law 256 = .ok (.aload_n 0, 1) := by decide +kernel
theorem dL_law_257 : decode cL_law 257 = .ok (.iload_n 3, 1) := by decide +kernel
theorem dL_law_258 : decode cL_law 258 = .ok (.iconst 3, 1) := by decide +kernel
theorem dL_law_259 : decode cL_law 259 = .ok (.iadd, 1) := by decide +kernel
theorem dL_law_260 : decode cL_law 260 = .ok (.iaload, 1) := by decide +kernel
theorem dL_law_261 : decode cL_law 261 = .ok (.aload_n 0, 1) := by decide +kernel
theorem dL_law_262 : decode cL_law 262 = .ok (.iload_n 3, 1) := by decide +kernel
theorem dL_law_263 : decode cL_law 263 = .ok (.iconst 4, 1) := by decide +kernel
theorem dL_law_264 : decode cL_law 264 = .ok (.iadd, 1) := by decide +kernel
theorem dL_law_265 : decode cL_law 265 = .ok (.iaload, 1) := by decide +kernel
theorem dL_law_266 : decode cL_law 266 = .ok (.invokevirtual 22, 3) := by decide +kernel
theorem dL_law_269 : decode cL_law 269 = .ok (.if_icmp .eq 1068, 3) := by decide +kernel
theorem dL_law_272 : decode cL_law 272 = .ok (.iconst 0, 1) := by decide +kernel
theorem dL_law_273 : decode cL_law 273 = .ok (.ireturn, 1) := by decide +kernel
theorem dL_law_274 : decode cL_law 274 = .ok (.aload_n 1, 1) := by decide +kernel
theorem dL_law_275 : decode cL_law 275 = .ok (.aload_n 0, 1) := by decide +kernel
theorem dL_law_276 : decode cL_law 276 = .ok (.iload_n 3, 1) := by decide +kernel
theorem dL_law_277 : decode cL_law 277 = .ok (.iconst 1, 1) := by decide +kernel
theorem dL_law_278 : decode cL_law 278 = .ok (.iadd, 1) := by decide +kernel
theorem dL_law_279 : decode cL_law 279 = .ok (.iaload, 1) := by decide +kernel
theorem dL_law_280 : decode cL_law 280 = .ok (.aload_n 0, 1) := by decide +kernel
theorem dL_law_281 : decode cL_law 281 = .ok (.iload_n 3, 1) := by decide +kernel
theorem dL_law_282 : decode cL_law 282 = .ok (.iconst 2, 1) := by decide +kernel
theorem dL_law_283 : decode cL_law 283 = .ok (.iadd, 1) := by decide +kernel
theorem dL_law_284 : decode cL_law 284 = .ok (.iaload, 1) := by decide +kernel
theorem dL_law_285 : decode cL_law 285 = .ok (.aload_n 0, 1) := by decide +kernel
theorem dL_law_286 : decode cL_law 286 = .ok (.iload_n 3, 1) := by decide +kernel
theorem dL_law_287 : decode cL_law 287 = .ok (.iconst 3, 1) := by decide +kernel
theorem dL_law_288 : decode cL_law 288 = .ok (.iadd, 1) := by decide +kernel
theorem dL_law_289 : decode cL_law 289 = .ok (.iaload, 1) := by decide +kernel
theorem dL_law_290 : decode cL_law 290 = .ok (.invokevirtual 23, 3) := by decide +kernel
theorem dL_law_293 : decode cL_law 293 = .ok (.aload_n 2, 1) := by decide +kernel
theorem dL_law_294 : decode cL_law 294 = .ok (.aload_n 0, 1) := by decide +kernel
theorem dL_law_295 : decode cL_law 295 = .ok (.iload_n 3, 1) := by decide +kernel
theorem dL_law_296 : decode cL_law 296 = .ok (.iconst 1, 1) := by decide +kernel
theorem dL_law_297 : decode cL_law 297 = .ok (.iadd, 1) := by decide +kernel
theorem dL_law_298 : decode cL_law 298 = .ok (.iaload, 1) := by decide +kernel
theorem dL_law_299 : decode cL_law 299 = .ok (.aload_n 0, 1) := by decide +kernel
theorem dL_law_300 : decode cL_law 300 = .ok (.iload_n 3, 1) := by decide +kernel
theorem dL_law_301 : decode cL_law 301 = .ok (.iconst 2, 1) := by decide +kernel
theorem dL_law_302 : decode cL_law 302 = .ok (.iadd, 1) := by decide +kernel
theorem dL_law_303 : decode cL_law 303 = .ok (.iaload, 1) := by decide +kernel
theorem dL_law_304 : decode cL_law 304 = .ok (.aload_n 0, 1) := by decide +kernel
theorem dL_law_305 : decode cL_law 305 = .ok (.iload_n 3, 1) := by decide +kernel
theorem dL_law_306 : decode cL_law 306 = .ok (.iconst 3, 1) := by decide +kernel
theorem dL_law_307 : decode cL_law 307 = .ok (.iadd, 1) := by decide +kernel
theorem dL_law_308 : decode cL_law 308 = .ok (.iaload, 1) := by decide +kernel
theorem dL_law_309 : decode cL_law 309 = .ok (.invokevirtual 27, 3) := by decide +kernel
theorem dL_law_312 : decode cL_law 312 = .ok (.if_icmp .eq 1025, 3) := by decide +kernel
theorem dL_law_315 : decode cL_law 315 = .ok (.iconst 0, 1) := by decide +kernel
theorem dL_law_316 : decode cL_law 316 = .ok (.ireturn, 1) := by decide +kernel
theorem dL_law_317 : decode cL_law 317 = .ok (.aload_n 1, 1) := by decide +kernel
theorem dL_law_318 : decode cL_law 318 = .ok (.aload_n 0, 1) := by decide +kernel
theorem dL_law_319 : decode cL_law 319 = .ok (.iload_n 3, 1) := by decide +kernel
theorem dL_law_320 : decode cL_law 320 = .ok (.iconst 1, 1) := by decide +kernel
theorem dL_law_321 : decode cL_law 321 = .ok (.iadd, 1) := by decide +kernel
theorem dL_law_322 : decode cL_law 322 = .ok (.iaload, 1) := by decide +kernel
theorem dL_law_323 : decode cL_law 323 = .ok (.aload_n 0, 1) := by decide +kernel
theorem dL_law_324 : decode cL_law 324 = .ok (.iload_n 3, 1) := by decide +kernel
theorem dL_law_325 : decode cL_law 325 = .ok (.iconst 2, 1) := by decide +kernel
theorem dL_law_326 : decode cL_law 326 = .ok (.iadd, 1) := by decide +kernel
theorem dL_law_327 : decode cL_law 327 = .ok (.iaload, 1) := by decide +kernel
theorem dL_law_328 : decode cL_law 328 = .ok (.invokevirtual 28, 3) := by decide +kernel
theorem dL_law_331 : decode cL_law 331 = .ok (.aload_n 2, 1) := by decide +kernel
theorem dL_law_332 : decode cL_law 332 = .ok (.aload_n 0, 1) := by decide +kernel
theorem dL_law_333 : decode cL_law 333 = .ok (.iload_n 3, 1) := by decide +kernel
theorem dL_law_334 : decode cL_law 334 = .ok (.iconst 1, 1) := by decide +kernel
theorem dL_law_335 : decode cL_law 335 = .ok (.iadd, 1) := by decide +kernel
theorem dL_law_336 : decode cL_law 336 = .ok (.iaload, 1) := by decide +kernel
theorem dL_law_337 : decode cL_law 337 = .ok (.aload_n 0, 1) := by decide +kernel
theorem dL_law_338 : decode cL_law 338 = .ok (.iload_n 3, 1) := by decide +kernel
theorem dL_law_339 : decode cL_law 339 = .ok (.iconst 2, 1) := by decide +kernel
theorem dL_law_340 : decode cL_law 340 = .ok (.iadd, 1) := by decide +kernel
theorem dL_law_341 : decode cL_law 341 = .ok (.iaload, 1) := by decide +kernel
theorem dL_law_342 : decode cL_law 342 = .ok (.invokevirtual 31, 3) := by decide +kernel
theorem dL_law_345 : decode cL_law 345 = .ok (.if_icmp .eq 992, 3) := by decide +kernel
theorem dL_law_348 : decode cL_law 348 = .ok (.iconst 0, 1) := by decide +kernel
theorem dL_law_349 : decode cL_law 349 = .ok (.ireturn, 1) := by decide +kernel
theorem dL_law_350 : decode cL_law 350 = .ok (.aload_n 1, 1) := by decide +kernel
theorem dL_law_351 : decode cL_law 351 = .ok (.aload_n 0, 1) := by decide +kernel
theorem dL_law_352 : decode cL_law 352 = .ok (.iload_n 3, 1) := by decide +kernel
theorem dL_law_353 : decode cL_law 353 = .ok (.iconst 1, 1) := by decide +kernel
theorem dL_law_354 : decode cL_law 354 = .ok (.iadd, 1) := by decide +kernel
theorem dL_law_355 : decode cL_law 355 = .ok (.iaload, 1) := by decide +kernel
theorem dL_law_356 : decode cL_law 356 = .ok (.invokevirtual 32, 3) := by decide +kernel
theorem dL_law_359 : decode cL_law 359 = .ok (.aload_n 2, 1) := by decide +kernel
theorem dL_law_360 : decode cL_law 360 = .ok (.aload_n 0, 1) := by decide +kernel
theorem dL_law_361 : decode cL_law 361 = .ok (.iload_n 3, 1) := by decide +kernel
theorem dL_law_362 : decode cL_law 362 = .ok (.iconst 1, 1) := by decide +kernel
theorem dL_law_363 : decode cL_law 363 = .ok (.iadd, 1) := by decide +kernel
theorem dL_law_364 : decode cL_law 364 = .ok (.iaload, 1) := by decide +kernel
theorem dL_law_365 : decode cL_law 365 = .ok (.invokevirtual 36, 3) := by decide +kernel
theorem dL_law_368 : decode cL_law 368 = .ok (.if_icmp .eq 969, 3) := by decide +kernel
theorem dL_law_371 : decode cL_law 371 = .ok (.iconst 0, 1) := by decide +kernel
theorem dL_law_372 : decode cL_law 372 = .ok (.ireturn, 1) := by decide +kernel
theorem dL_law_373 : decode cL_law 373 = .ok (.aload_n 1, 1) := by decide +kernel
theorem dL_law_374 : decode cL_law 374 = .ok (.invokevirtual 37, 3) := by decide +kernel
theorem dL_law_377 : decode cL_law 377 = .ok (.aload_n 2, 1) := by decide +kernel
theorem dL_law_378 : decode cL_law 378 = .ok (.invokevirtual 41, 3) := by decide +kernel
theorem dL_law_381 : decode cL_law 381 = .ok (.if_icmp .eq 956, 3) := by decide +kernel
theorem dL_law_384 : decode cL_law 384 = .ok (.iconst 0, 1) := by decide +kernel
theorem dL_law_385 : decode cL_law 385 = .ok (.ireturn, 1) := by decide +kernel
theorem dL_law_386 : decode cL_law 386 = .ok (.aload_n 1, 1) := by decide +kernel
theorem dL_law_387 : decode cL_law 387 = .ok (.invokevirtual 42, 3) := by decide +kernel
theorem dL_law_390 : decode cL_law 390 = .ok (.aload_n 2, 1) := by decide +kernel
theorem dL_law_391 : decode cL_law 391 = .ok (.invokevirtual 45, 3) := by decide +kernel
theorem dL_law_394 : decode cL_law 394 = .ok (.if_icmp .eq 943, 3) := by decide +kernel
theorem dL_law_397 : decode cL_law 397 = .ok (.iconst 0, 1) := by decide +kernel
theorem dL_law_398 : decode cL_law 398 = .ok (.ireturn, 1) := by decide +kernel
theorem dL_law_399 : decode cL_law 399 = .ok (.aload_n 1, 1) := by decide +kernel
theorem dL_law_400 : decode cL_law 400 = .ok (.aload_n 0, 1) := by decide +kernel
theorem dL_law_401 : decode cL_law 401 = .ok (.iload_n 3, 1) := by decide +kernel
theorem dL_law_402 : decode cL_law 402 = .ok (.iconst 1, 1) := by decide +kernel
theorem dL_law_403 : decode cL_law 403 = .ok (.iadd, 1) := by decide +kernel
theorem dL_law_404 : decode cL_law 404 = .ok (.iaload, 1) := by decide +kernel
theorem dL_law_405 : decode cL_law 405 = .ok (.aload_n 0, 1) := by decide +kernel
theorem dL_law_406 : decode cL_law 406 = .ok (.iload_n 3, 1) := by decide +kernel
theorem dL_law_407 : decode cL_law 407 = .ok (.iconst 2, 1) := by decide +kernel
theorem dL_law_408 : decode cL_law 408 = .ok (.iadd, 1) := by decide +kernel
theorem dL_law_409 : decode cL_law 409 = .ok (.iaload, 1) := by decide +kernel
theorem dL_law_410 : decode cL_law 410 = .ok (.aload_n 0, 1) := by decide +kernel
theorem dL_law_411 : decode cL_law 411 = .ok (.iload_n 3, 1) := by decide +kernel
theorem dL_law_412 : decode cL_law 412 = .ok (.iconst 3, 1) := by decide +kernel
theorem dL_law_413 : decode cL_law 413 = .ok (.iadd, 1) := by decide +kernel
theorem dL_law_414 : decode cL_law 414 = .ok (.iaload, 1) := by decide +kernel
theorem dL_law_415 : decode cL_law 415 = .ok (.invokevirtual 46, 3) := by decide +kernel
theorem dL_law_418 : decode cL_law 418 = .ok (.aload_n 2, 1) := by decide +kernel
theorem dL_law_419 : decode cL_law 419 = .ok (.aload_n 0, 1) := by decide +kernel
theorem dL_law_420 : decode cL_law 420 = .ok (.iload_n 3, 1) := by decide +kernel
theorem dL_law_421 : decode cL_law 421 = .ok (.iconst 1, 1) := by decide +kernel
theorem dL_law_422 : decode cL_law 422 = .ok (.iadd, 1) := by decide +kernel
theorem dL_law_423 : decode cL_law 423 = .ok (.iaload, 1) := by decide +kernel
theorem dL_law_424 : decode cL_law 424 = .ok (.aload_n 0, 1) := by decide +kernel
theorem dL_law_425 : decode cL_law 425 = .ok (.iload_n 3, 1) := by decide +kernel
theorem dL_law_426 : decode cL_law 426 = .ok (.iconst 2, 1) := by decide +kernel
theorem dL_law_427 : decode cL_law 427 = .ok (.iadd, 1) := by decide +kernel
theorem dL_law_428 : decode cL_law 428 = .ok (.iaload, 1) := by decide +kernel
theorem dL_law_429 : decode cL_law 429 = .ok (.aload_n 0, 1) := by decide +kernel
theorem dL_law_430 : decode cL_law 430 = .ok (.iload_n 3, 1) := by decide +kernel
theorem dL_law_431 : decode cL_law 431 = .ok (.iconst 3, 1) := by decide +kernel
theorem dL_law_432 : decode cL_law 432 = .ok (.iadd, 1) := by decide +kernel
theorem dL_law_433 : decode cL_law 433 = .ok (.iaload, 1) := by decide +kernel
theorem dL_law_434 : decode cL_law 434 = .ok (.invokevirtual 49, 3) := by decide +kernel
theorem dL_law_437 : decode cL_law 437 = .ok (.if_icmp .eq 900, 3) := by decide +kernel
theorem dL_law_440 : decode cL_law 440 = .ok (.iconst 0, 1) := by decide +kernel
theorem dL_law_441 : decode cL_law 441 = .ok (.ireturn, 1) := by decide +kernel
theorem dL_law_442 : decode cL_law 442 = .ok (.aload_n 1, 1) := by decide +kernel
theorem dL_law_443 : decode cL_law 443 = .ok (.aload_n 0, 1) := by decide +kernel
theorem dL_law_444 : decode cL_law 444 = .ok (.iload_n 3, 1) := by decide +kernel
theorem dL_law_445 : decode cL_law 445 = .ok (.iconst 1, 1) := by decide +kernel
theorem dL_law_446 : decode cL_law 446 = .ok (.iadd, 1) := by decide +kernel
theorem dL_law_447 : decode cL_law 447 = .ok (.iaload, 1) := by decide +kernel
theorem dL_law_448 : decode cL_law 448 = .ok (.aload_n 0, 1) := by decide +kernel
theorem dL_law_449 : decode cL_law 449 = .ok (.iload_n 3, 1) := by decide +kernel
theorem dL_law_450 : decode cL_law 450 = .ok (.iconst 2, 1) := by decide +kernel
theorem dL_law_451 : decode cL_law 451 = .ok (.iadd, 1) := by decide +kernel
theorem dL_law_452 : decode cL_law 452 = .ok (.iaload, 1) := by decide +kernel
theorem dL_law_453 : decode cL_law 453 = .ok (.invokevirtual 50, 3) := by decide +kernel
theorem dL_law_456 : decode cL_law 456 = .ok (.aload_n 2, 1) := by decide +kernel
theorem dL_law_457 : decode cL_law 457 = .ok (.aload_n 0, 1) := by decide +kernel
theorem dL_law_458 : decode cL_law 458 = .ok (.iload_n 3, 1) := by decide +kernel
theorem dL_law_459 : decode cL_law 459 = .ok (.iconst 1, 1) := by decide +kernel
theorem dL_law_460 : decode cL_law 460 = .ok (.iadd, 1) := by decide +kernel
theorem dL_law_461 : decode cL_law 461 = .ok (.iaload, 1) := by decide +kernel
theorem dL_law_462 : decode cL_law 462 = .ok (.aload_n 0, 1) := by decide +kernel
theorem dL_law_463 : decode cL_law 463 = .ok (.iload_n 3, 1) := by decide +kernel
theorem dL_law_464 : decode cL_law 464 = .ok (.iconst 2, 1) := by decide +kernel
theorem dL_law_465 : decode cL_law 465 = .ok (.iadd, 1) := by decide +kernel
theorem dL_law_466 : decode cL_law 466 = .ok (.iaload, 1) := by decide +kernel
theorem dL_law_467 : decode cL_law 467 = .ok (.invokevirtual 53, 3) := by decide +kernel
theorem dL_law_470 : decode cL_law 470 = .ok (.if_icmp .eq 867, 3) := by decide +kernel
theorem dL_law_473 : decode cL_law 473 = .ok (.iconst 0, 1) := by decide +kernel
theorem dL_law_474 : decode cL_law 474 = .ok (.ireturn, 1) := by decide +kernel
theorem dL_law_475 : decode cL_law 475 = .ok (.aload_n 1, 1) := by decide +kernel
theorem dL_law_476 : decode cL_law 476 = .ok (.aload_n 0, 1) := by decide +kernel
theorem dL_law_477 : decode cL_law 477 = .ok (.iload_n 3, 1) := by decide +kernel
theorem dL_law_478 : decode cL_law 478 = .ok (.iconst 1, 1) := by decide +kernel
theorem dL_law_479 : decode cL_law 479 = .ok (.iadd, 1) := by decide +kernel
theorem dL_law_480 : decode cL_law 480 = .ok (.iaload, 1) := by decide +kernel
theorem dL_law_481 : decode cL_law 481 = .ok (.invokevirtual 54, 3) := by decide +kernel
theorem dL_law_484 : decode cL_law 484 = .ok (.aload_n 2, 1) := by decide +kernel
theorem dL_law_485 : decode cL_law 485 = .ok (.aload_n 0, 1) := by decide +kernel
theorem dL_law_486 : decode cL_law 486 = .ok (.iload_n 3, 1) := by decide +kernel
theorem dL_law_487 : decode cL_law 487 = .ok (.iconst 1, 1) := by decide +kernel
theorem dL_law_488 : decode cL_law 488 = .ok (.iadd, 1) := by decide +kernel
theorem dL_law_489 : decode cL_law 489 = .ok (.iaload, 1) := by decide +kernel
theorem dL_law_490 : decode cL_law 490 = .ok (.invokevirtual 57, 3) := by decide +kernel
theorem dL_law_493 : decode cL_law 493 = .ok (.if_icmp .eq 844, 3) := by decide +kernel
theorem dL_law_496 : decode cL_law 496 = .ok (.iconst 0, 1) := by decide +kernel
theorem dL_law_497 : decode cL_law 497 = .ok (.ireturn, 1) := by decide +kernel
theorem dL_law_498 : decode cL_law 498 = .ok (.aload_n 1, 1) := by decide +kernel
theorem dL_law_499 : decode cL_law 499 = .ok (.aload_n 0, 1) := by decide +kernel
theorem dL_law_500 : decode cL_law 500 = .ok (.iload_n 3, 1) := by decide +kernel
theorem dL_law_501 : decode cL_law 501 = .ok (.iconst 1, 1) := by decide +kernel
theorem dL_law_502 : decode cL_law 502 = .ok (.iadd, 1) := by decide +kernel
theorem dL_law_503 : decode cL_law 503 = .ok (.iaload, 1) := by decide +kernel
theorem dL_law_504 : decode cL_law 504 = .ok (.invokevirtual 58, 3) := by decide +kernel
theorem dL_law_507 : decode cL_law 507 = .ok (.aload_n 2, 1) := by decide +kernel
theorem dL_law_508 : decode cL_law 508 = .ok (.aload_n 0, 1) := by decide +kernel
theorem dL_law_509 : decode cL_law 509 = .ok (.iload_n 3, 1) := by decide +kernel
theorem dL_law_510 : decode cL_law 510 = .ok (.iconst 1, 1) := by decide +kernel
theorem dL_law_511 : decode cL_law 511 = .ok (.iadd, 1) := by decide +kernel
theorem dL_law_512 : decode cL_law 512 = .ok (.iaload, 1) := by decide +kernel
theorem dL_law_513 : decode cL_law 513 = .ok (.invokevirtual 61, 3) := by decide +kernel
theorem dL_law_516 : decode cL_law 516 = .ok (.if_icmp .eq 821, 3) := by decide +kernel
theorem dL_law_519 : decode cL_law 519 = .ok (.iconst 0, 1) := by decide +kernel
theorem dL_law_520 : decode cL_law 520 = .ok (.ireturn, 1) := by decide +kernel
theorem dL_law_521 : decode cL_law 521 = .ok (.aload_n 1, 1) := by decide +kernel
theorem dL_law_522 : decode cL_law 522 = .ok (.aload_n 0, 1) := by decide +kernel
theorem dL_law_523 : decode cL_law 523 = .ok (.iload_n 3, 1) := by decide +kernel
theorem dL_law_524 : decode cL_law 524 = .ok (.iconst 1, 1) := by decide +kernel
theorem dL_law_525 : decode cL_law 525 = .ok (.iadd, 1) := by decide +kernel
theorem dL_law_526 : decode cL_law 526 = .ok (.iaload, 1) := by decide +kernel
theorem dL_law_527 : decode cL_law 527 = .ok (.aload_n 0, 1) := by decide +kernel
theorem dL_law_528 : decode cL_law 528 = .ok (.iload_n 3, 1) := by decide +kernel
theorem dL_law_529 : decode cL_law 529 = .ok (.iconst 2, 1) := by decide +kernel
theorem dL_law_530 : decode cL_law 530 = .ok (.iadd, 1) := by decide +kernel
theorem dL_law_531 : decode cL_law 531 = .ok (.iaload, 1) := by decide +kernel
theorem dL_law_532 : decode cL_law 532 = .ok (.invokevirtual 62, 3) := by decide +kernel
theorem dL_law_535 : decode cL_law 535 = .ok (.aload_n 2, 1) := by decide +kernel
theorem dL_law_536 : decode cL_law 536 = .ok (.aload_n 0, 1) := by decide +kernel
theorem dL_law_537 : decode cL_law 537 = .ok (.iload_n 3, 1) := by decide +kernel
theorem dL_law_538 : decode cL_law 538 = .ok (.iconst 1, 1) := by decide +kernel
theorem dL_law_539 : decode cL_law 539 = .ok (.iadd, 1) := by decide +kernel
theorem dL_law_540 : decode cL_law 540 = .ok (.iaload, 1) := by decide +kernel
theorem dL_law_541 : decode cL_law 541 = .ok (.aload_n 0, 1) := by decide +kernel
theorem dL_law_542 : decode cL_law 542 = .ok (.iload_n 3, 1) := by decide +kernel
theorem dL_law_543 : decode cL_law 543 = .ok (.iconst 2, 1) := by decide +kernel
theorem dL_law_544 : decode cL_law 544 = .ok (.iadd, 1) := by decide +kernel
theorem dL_law_545 : decode cL_law 545 = .ok (.iaload, 1) := by decide +kernel
theorem dL_law_546 : decode cL_law 546 = .ok (.invokevirtual 65, 3) := by decide +kernel
theorem dL_law_549 : decode cL_law 549 = .ok (.if_icmp .eq 788, 3) := by decide +kernel
theorem dL_law_552 : decode cL_law 552 = .ok (.iconst 0, 1) := by decide +kernel
theorem dL_law_553 : decode cL_law 553 = .ok (.ireturn, 1) := by decide +kernel
theorem dL_law_554 : decode cL_law 554 = .ok (.aload_n 1, 1) := by decide +kernel
theorem dL_law_555 : decode cL_law 555 = .ok (.aload_n 0, 1) := by decide +kernel
theorem dL_law_556 : decode cL_law 556 = .ok (.iload_n 3, 1) := by decide +kernel
theorem dL_law_557 : decode cL_law 557 = .ok (.iconst 1, 1) := by decide +kernel
theorem dL_law_558 : decode cL_law 558 = .ok (.iadd, 1) := by decide +kernel
theorem dL_law_559 : decode cL_law 559 = .ok (.iaload, 1) := by decide +kernel
theorem dL_law_560 : decode cL_law 560 = .ok (.invokevirtual 66, 3) := by decide +kernel
theorem dL_law_563 : decode cL_law 563 = .ok (.aload_n 2, 1) := by decide +kernel
theorem dL_law_564 : decode cL_law 564 = .ok (.aload_n 0, 1) := by decide +kernel
theorem dL_law_565 : decode cL_law 565 = .ok (.iload_n 3, 1) := by decide +kernel
theorem dL_law_566 : decode cL_law 566 = .ok (.iconst 1, 1) := by decide +kernel
theorem dL_law_567 : decode cL_law 567 = .ok (.iadd, 1) := by decide +kernel
theorem dL_law_568 : decode cL_law 568 = .ok (.iaload, 1) := by decide +kernel
theorem dL_law_569 : decode cL_law 569 = .ok (.invokevirtual 69, 3) := by decide +kernel
theorem dL_law_572 : decode cL_law 572 = .ok (.if_icmp .eq 765, 3) := by decide +kernel
theorem dL_law_575 : decode cL_law 575 = .ok (.iconst 0, 1) := by decide +kernel
theorem dL_law_576 : decode cL_law 576 = .ok (.ireturn, 1) := by decide +kernel
theorem dL_law_577 : decode cL_law 577 = .ok (.aload_n 1, 1) := by decide +kernel
theorem dL_law_578 : decode cL_law 578 = .ok (.aload_n 0, 1) := by decide +kernel
theorem dL_law_579 : decode cL_law 579 = .ok (.iload_n 3, 1) := by decide +kernel
theorem dL_law_580 : decode cL_law 580 = .ok (.iconst 1, 1) := by decide +kernel
theorem dL_law_581 : decode cL_law 581 = .ok (.iadd, 1) := by decide +kernel
theorem dL_law_582 : decode cL_law 582 = .ok (.iaload, 1) := by decide +kernel
theorem dL_law_583 : decode cL_law 583 = .ok (.aload_n 0, 1) := by decide +kernel
theorem dL_law_584 : decode cL_law 584 = .ok (.iload_n 3, 1) := by decide +kernel
theorem dL_law_585 : decode cL_law 585 = .ok (.iconst 2, 1) := by decide +kernel
theorem dL_law_586 : decode cL_law 586 = .ok (.iadd, 1) := by decide +kernel
theorem dL_law_587 : decode cL_law 587 = .ok (.iaload, 1) := by decide +kernel
theorem dL_law_588 : decode cL_law 588 = .ok (.invokevirtual 70, 3) := by decide +kernel
theorem dL_law_591 : decode cL_law 591 = .ok (.aload_n 2, 1) := by decide +kernel
theorem dL_law_592 : decode cL_law 592 = .ok (.aload_n 0, 1) := by decide +kernel
theorem dL_law_593 : decode cL_law 593 = .ok (.iload_n 3, 1) := by decide +kernel
theorem dL_law_594 : decode cL_law 594 = .ok (.iconst 1, 1) := by decide +kernel
theorem dL_law_595 : decode cL_law 595 = .ok (.iadd, 1) := by decide +kernel
theorem dL_law_596 : decode cL_law 596 = .ok (.iaload, 1) := by decide +kernel
theorem dL_law_597 : decode cL_law 597 = .ok (.aload_n 0, 1) := by decide +kernel
theorem dL_law_598 : decode cL_law 598 = .ok (.iload_n 3, 1) := by decide +kernel
theorem dL_law_599 : decode cL_law 599 = .ok (.iconst 2, 1) := by decide +kernel
theorem dL_law_600 : decode cL_law 600 = .ok (.iadd, 1) := by decide +kernel
theorem dL_law_601 : decode cL_law 601 = .ok (.iaload, 1) := by decide +kernel
theorem dL_law_602 : decode cL_law 602 = .ok (.invokevirtual 74, 3) := by decide +kernel
theorem dL_law_605 : decode cL_law 605 = .ok (.lcmp, 1) := by decide +kernel
theorem dL_law_606 : decode cL_law 606 = .ok (.ifCond .eq 731, 3) := by decide +kernel
theorem dL_law_609 : decode cL_law 609 = .ok (.iconst 0, 1) := by decide +kernel
theorem dL_law_610 : decode cL_law 610 = .ok (.ireturn, 1) := by decide +kernel
theorem dL_law_611 : decode cL_law 611 = .ok (.aload_n 1, 1) := by decide +kernel
theorem dL_law_612 : decode cL_law 612 = .ok (.invokevirtual 75, 3) := by decide +kernel
theorem dL_law_615 : decode cL_law 615 = .ok (.aload_n 2, 1) := by decide +kernel
theorem dL_law_616 : decode cL_law 616 = .ok (.invokevirtual 78, 3) := by decide +kernel
theorem dL_law_619 : decode cL_law 619 = .ok (.if_icmp .eq 718, 3) := by decide +kernel
theorem dL_law_622 : decode cL_law 622 = .ok (.iconst 0, 1) := by decide +kernel
theorem dL_law_623 : decode cL_law 623 = .ok (.ireturn, 1) := by decide +kernel
theorem dL_law_624 : decode cL_law 624 = .ok (.aload_n 1, 1) := by decide +kernel
theorem dL_law_625 : decode cL_law 625 = .ok (.aload_n 0, 1) := by decide +kernel
theorem dL_law_626 : decode cL_law 626 = .ok (.iload_n 3, 1) := by decide +kernel
theorem dL_law_627 : decode cL_law 627 = .ok (.iconst 1, 1) := by decide +kernel
theorem dL_law_628 : decode cL_law 628 = .ok (.iadd, 1) := by decide +kernel
theorem dL_law_629 : decode cL_law 629 = .ok (.iaload, 1) := by decide +kernel
theorem dL_law_630 : decode cL_law 630 = .ok (.aload_n 0, 1) := by decide +kernel
theorem dL_law_631 : decode cL_law 631 = .ok (.iload_n 3, 1) := by decide +kernel
theorem dL_law_632 : decode cL_law 632 = .ok (.iconst 2, 1) := by decide +kernel
theorem dL_law_633 : decode cL_law 633 = .ok (.iadd, 1) := by decide +kernel
theorem dL_law_634 : decode cL_law 634 = .ok (.iaload, 1) := by decide +kernel
theorem dL_law_635 : decode cL_law 635 = .ok (.invokevirtual 79, 3) := by decide +kernel
theorem dL_law_638 : decode cL_law 638 = .ok (.aload_n 2, 1) := by decide +kernel
theorem dL_law_639 : decode cL_law 639 = .ok (.aload_n 0, 1) := by decide +kernel
theorem dL_law_640 : decode cL_law 640 = .ok (.iload_n 3, 1) := by decide +kernel
theorem dL_law_641 : decode cL_law 641 = .ok (.iconst 1, 1) := by decide +kernel
theorem dL_law_642 : decode cL_law 642 = .ok (.iadd, 1) := by decide +kernel
theorem dL_law_643 : decode cL_law 643 = .ok (.iaload, 1) := by decide +kernel
theorem dL_law_644 : decode cL_law 644 = .ok (.aload_n 0, 1) := by decide +kernel
theorem dL_law_645 : decode cL_law 645 = .ok (.iload_n 3, 1) := by decide +kernel
theorem dL_law_646 : decode cL_law 646 = .ok (.iconst 2, 1) := by decide +kernel
theorem dL_law_647 : decode cL_law 647 = .ok (.iadd, 1) := by decide +kernel
theorem dL_law_648 : decode cL_law 648 = .ok (.iaload, 1) := by decide +kernel
theorem dL_law_649 : decode cL_law 649 = .ok (.invokevirtual 82, 3) := by decide +kernel
theorem dL_law_652 : decode cL_law 652 = .ok (.if_icmp .eq 685, 3) := by decide +kernel
theorem dL_law_655 : decode cL_law 655 = .ok (.iconst 0, 1) := by decide +kernel
theorem dL_law_656 : decode cL_law 656 = .ok (.ireturn, 1) := by decide +kernel
theorem dL_law_657 : decode cL_law 657 = .ok (.aload_n 1, 1) := by decide +kernel
theorem dL_law_658 : decode cL_law 658 = .ok (.aload_n 0, 1) := by decide +kernel
theorem dL_law_659 : decode cL_law 659 = .ok (.iload_n 3, 1) := by decide +kernel
theorem dL_law_660 : decode cL_law 660 = .ok (.iconst 1, 1) := by decide +kernel
theorem dL_law_661 : decode cL_law 661 = .ok (.iadd, 1) := by decide +kernel
theorem dL_law_662 : decode cL_law 662 = .ok (.iaload, 1) := by decide +kernel
theorem dL_law_663 : decode cL_law 663 = .ok (.invokevirtual 83, 3) := by decide +kernel
theorem dL_law_666 : decode cL_law 666 = .ok (.aload_n 2, 1) := by decide +kernel
theorem dL_law_667 : decode cL_law 667 = .ok (.aload_n 0, 1) := by decide +kernel
theorem dL_law_668 : decode cL_law 668 = .ok (.iload_n 3, 1) := by decide +kernel
theorem dL_law_669 : decode cL_law 669 = .ok (.iconst 1, 1) := by decide +kernel
theorem dL_law_670 : decode cL_law 670 = .ok (.iadd, 1) := by decide +kernel
theorem dL_law_671 : decode cL_law 671 = .ok (.iaload, 1) := by decide +kernel
theorem dL_law_672 : decode cL_law 672 = .ok (.invokevirtual 86, 3) := by decide +kernel
theorem dL_law_675 : decode cL_law 675 = .ok (.if_icmp .eq 662, 3) := by decide +kernel
theorem dL_law_678 : decode cL_law 678 = .ok (.iconst 0, 1) := by decide +kernel
theorem dL_law_679 : decode cL_law 679 = .ok (.ireturn, 1) := by decide +kernel
theorem dL_law_680 : decode cL_law 680 = .ok (.aload_n 1, 1) := by decide +kernel
theorem dL_law_681 : decode cL_law 681 = .ok (.aload_n 0, 1) := by decide +kernel
theorem dL_law_682 : decode cL_law 682 = .ok (.iload_n 3, 1) := by decide +kernel
theorem dL_law_683 : decode cL_law 683 = .ok (.iconst 1, 1) := by decide +kernel
theorem dL_law_684 : decode cL_law 684 = .ok (.iadd, 1) := by decide +kernel
theorem dL_law_685 : decode cL_law 685 = .ok (.iaload, 1) := by decide +kernel
theorem dL_law_686 : decode cL_law 686 = .ok (.invokevirtual 87, 3) := by decide +kernel
theorem dL_law_689 : decode cL_law 689 = .ok (.aload_n 2, 1) := by decide +kernel
theorem dL_law_690 : decode cL_law 690 = .ok (.aload_n 0, 1) := by decide +kernel
theorem dL_law_691 : decode cL_law 691 = .ok (.iload_n 3, 1) := by decide +kernel
theorem dL_law_692 : decode cL_law 692 = .ok (.iconst 1, 1) := by decide +kernel
theorem dL_law_693 : decode cL_law 693 = .ok (.iadd, 1) := by decide +kernel
theorem dL_law_694 : decode cL_law 694 = .ok (.iaload, 1) := by decide +kernel
theorem dL_law_695 : decode cL_law 695 = .ok (.invokevirtual 90, 3) := by decide +kernel
theorem dL_law_698 : decode cL_law 698 = .ok (.if_icmp .eq 639, 3) := by decide +kernel
theorem dL_law_701 : decode cL_law 701 = .ok (.iconst 0, 1) := by decide +kernel
theorem dL_law_702 : decode cL_law 702 = .ok (.ireturn, 1) := by decide +kernel
theorem dL_law_703 : decode cL_law 703 = .ok (.aload_n 1, 1) := by decide +kernel
theorem dL_law_704 : decode cL_law 704 = .ok (.aload_n 0, 1) := by decide +kernel
theorem dL_law_705 : decode cL_law 705 = .ok (.iload_n 3, 1) := by decide +kernel
theorem dL_law_706 : decode cL_law 706 = .ok (.iconst 1, 1) := by decide +kernel
theorem dL_law_707 : decode cL_law 707 = .ok (.iadd, 1) := by decide +kernel
theorem dL_law_708 : decode cL_law 708 = .ok (.iaload, 1) := by decide +kernel
theorem dL_law_709 : decode cL_law 709 = .ok (.aload_n 0, 1) := by decide +kernel
theorem dL_law_710 : decode cL_law 710 = .ok (.iload_n 3, 1) := by decide +kernel
theorem dL_law_711 : decode cL_law 711 = .ok (.iconst 2, 1) := by decide +kernel
theorem dL_law_712 : decode cL_law 712 = .ok (.iadd, 1) := by decide +kernel
theorem dL_law_713 : decode cL_law 713 = .ok (.iaload, 1) := by decide +kernel
theorem dL_law_714 : decode cL_law 714 = .ok (.invokevirtual 91, 3) := by decide +kernel
theorem dL_law_717 : decode cL_law 717 = .ok (.aload_n 2, 1) := by decide +kernel
theorem dL_law_718 : decode cL_law 718 = .ok (.aload_n 0, 1) := by decide +kernel
theorem dL_law_719 : decode cL_law 719 = .ok (.iload_n 3, 1) := by decide +kernel
theorem dL_law_720 : decode cL_law 720 = .ok (.iconst 1, 1) := by decide +kernel
theorem dL_law_721 : decode cL_law 721 = .ok (.iadd, 1) := by decide +kernel
theorem dL_law_722 : decode cL_law 722 = .ok (.iaload, 1) := by decide +kernel
theorem dL_law_723 : decode cL_law 723 = .ok (.aload_n 0, 1) := by decide +kernel
theorem dL_law_724 : decode cL_law 724 = .ok (.iload_n 3, 1) := by decide +kernel
theorem dL_law_725 : decode cL_law 725 = .ok (.iconst 2, 1) := by decide +kernel
theorem dL_law_726 : decode cL_law 726 = .ok (.iadd, 1) := by decide +kernel
theorem dL_law_727 : decode cL_law 727 = .ok (.iaload, 1) := by decide +kernel
theorem dL_law_728 : decode cL_law 728 = .ok (.invokevirtual 94, 3) := by decide +kernel
theorem dL_law_731 : decode cL_law 731 = .ok (.if_icmp .eq 606, 3) := by decide +kernel
theorem dL_law_734 : decode cL_law 734 = .ok (.iconst 0, 1) := by decide +kernel
theorem dL_law_735 : decode cL_law 735 = .ok (.ireturn, 1) := by decide +kernel
theorem dL_law_736 : decode cL_law 736 = .ok (.aload_n 1, 1) := by decide +kernel
theorem dL_law_737 : decode cL_law 737 = .ok (.aload_n 0, 1) := by decide +kernel
theorem dL_law_738 : decode cL_law 738 = .ok (.iload_n 3, 1) := by decide +kernel
theorem dL_law_739 : decode cL_law 739 = .ok (.iconst 1, 1) := by decide +kernel
theorem dL_law_740 : decode cL_law 740 = .ok (.iadd, 1) := by decide +kernel
theorem dL_law_741 : decode cL_law 741 = .ok (.iaload, 1) := by decide +kernel
theorem dL_law_742 : decode cL_law 742 = .ok (.aload_n 0, 1) := by decide +kernel
theorem dL_law_743 : decode cL_law 743 = .ok (.iload_n 3, 1) := by decide +kernel
theorem dL_law_744 : decode cL_law 744 = .ok (.iconst 2, 1) := by decide +kernel
theorem dL_law_745 : decode cL_law 745 = .ok (.iadd, 1) := by decide +kernel
theorem dL_law_746 : decode cL_law 746 = .ok (.iaload, 1) := by decide +kernel
theorem dL_law_747 : decode cL_law 747 = .ok (.invokevirtual 95, 3) := by decide +kernel
theorem dL_law_750 : decode cL_law 750 = .ok (.aload_n 2, 1) := by decide +kernel
theorem dL_law_751 : decode cL_law 751 = .ok (.aload_n 0, 1) := by decide +kernel
theorem dL_law_752 : decode cL_law 752 = .ok (.iload_n 3, 1) := by decide +kernel
theorem dL_law_753 : decode cL_law 753 = .ok (.iconst 1, 1) := by decide +kernel
theorem dL_law_754 : decode cL_law 754 = .ok (.iadd, 1) := by decide +kernel
theorem dL_law_755 : decode cL_law 755 = .ok (.iaload, 1) := by decide +kernel
theorem dL_law_756 : decode cL_law 756 = .ok (.aload_n 0, 1) := by decide +kernel
theorem dL_law_757 : decode cL_law 757 = .ok (.iload_n 3, 1) := by decide +kernel
theorem dL_law_758 : decode cL_law 758 = .ok (.iconst 2, 1) := by decide +kernel
theorem dL_law_759 : decode cL_law 759 = .ok (.iadd, 1) := by decide +kernel
theorem dL_law_760 : decode cL_law 760 = .ok (.iaload, 1) := by decide +kernel
theorem dL_law_761 : decode cL_law 761 = .ok (.invokevirtual 98, 3) := by decide +kernel
theorem dL_law_764 : decode cL_law 764 = .ok (.if_icmp .eq 573, 3) := by decide +kernel
theorem dL_law_767 : decode cL_law 767 = .ok (.iconst 0, 1) := by decide +kernel
theorem dL_law_768 : decode cL_law 768 = .ok (.ireturn, 1) := by decide +kernel
theorem dL_law_769 : decode cL_law 769 = .ok (.aload_n 1, 1) := by decide +kernel
theorem dL_law_770 : decode cL_law 770 = .ok (.invokevirtual 99, 3) := by decide +kernel
theorem dL_law_773 : decode cL_law 773 = .ok (.aload_n 2, 1) := by decide +kernel
theorem dL_law_774 : decode cL_law 774 = .ok (.invokevirtual 102, 3) := by decide +kernel
theorem dL_law_777 : decode cL_law 777 = .ok (.if_icmp .eq 560, 3) := by decide +kernel
theorem dL_law_780 : decode cL_law 780 = .ok (.iconst 0, 1) := by decide +kernel
theorem dL_law_781 : decode cL_law 781 = .ok (.ireturn, 1) := by decide +kernel
theorem dL_law_782 : decode cL_law 782 = .ok (.aload_n 1, 1) := by decide +kernel
theorem dL_law_783 : decode cL_law 783 = .ok (.aload_n 0, 1) := by decide +kernel
theorem dL_law_784 : decode cL_law 784 = .ok (.iload_n 3, 1) := by decide +kernel
theorem dL_law_785 : decode cL_law 785 = .ok (.iconst 1, 1) := by decide +kernel
theorem dL_law_786 : decode cL_law 786 = .ok (.iadd, 1) := by decide +kernel
theorem dL_law_787 : decode cL_law 787 = .ok (.iaload, 1) := by decide +kernel
theorem dL_law_788 : decode cL_law 788 = .ok (.invokevirtual 103, 3) := by decide +kernel
theorem dL_law_791 : decode cL_law 791 = .ok (.aload_n 2, 1) := by decide +kernel
theorem dL_law_792 : decode cL_law 792 = .ok (.aload_n 0, 1) := by decide +kernel
theorem dL_law_793 : decode cL_law 793 = .ok (.iload_n 3, 1) := by decide +kernel
theorem dL_law_794 : decode cL_law 794 = .ok (.iconst 1, 1) := by decide +kernel
theorem dL_law_795 : decode cL_law 795 = .ok (.iadd, 1) := by decide +kernel
theorem dL_law_796 : decode cL_law 796 = .ok (.iaload, 1) := by decide +kernel
theorem dL_law_797 : decode cL_law 797 = .ok (.invokevirtual 106, 3) := by decide +kernel
theorem dL_law_800 : decode cL_law 800 = .ok (.if_icmp .eq 537, 3) := by decide +kernel
theorem dL_law_803 : decode cL_law 803 = .ok (.iconst 0, 1) := by decide +kernel
theorem dL_law_804 : decode cL_law 804 = .ok (.ireturn, 1) := by decide +kernel
theorem dL_law_805 : decode cL_law 805 = .ok (.aload_n 1, 1) := by decide +kernel
theorem dL_law_806 : decode cL_law 806 = .ok (.aload_n 0, 1) := by decide +kernel
theorem dL_law_807 : decode cL_law 807 = .ok (.iload_n 3, 1) := by decide +kernel
theorem dL_law_808 : decode cL_law 808 = .ok (.iconst 1, 1) := by decide +kernel
theorem dL_law_809 : decode cL_law 809 = .ok (.iadd, 1) := by decide +kernel
theorem dL_law_810 : decode cL_law 810 = .ok (.iaload, 1) := by decide +kernel
theorem dL_law_811 : decode cL_law 811 = .ok (.aload_n 0, 1) := by decide +kernel
theorem dL_law_812 : decode cL_law 812 = .ok (.iload_n 3, 1) := by decide +kernel
theorem dL_law_813 : decode cL_law 813 = .ok (.iconst 2, 1) := by decide +kernel
theorem dL_law_814 : decode cL_law 814 = .ok (.iadd, 1) := by decide +kernel
theorem dL_law_815 : decode cL_law 815 = .ok (.iaload, 1) := by decide +kernel
theorem dL_law_816 : decode cL_law 816 = .ok (.aload_n 0, 1) := by decide +kernel
theorem dL_law_817 : decode cL_law 817 = .ok (.iload_n 3, 1) := by decide +kernel
theorem dL_law_818 : decode cL_law 818 = .ok (.iconst 3, 1) := by decide +kernel
theorem dL_law_819 : decode cL_law 819 = .ok (.iadd, 1) := by decide +kernel
theorem dL_law_820 : decode cL_law 820 = .ok (.iaload, 1) := by decide +kernel
theorem dL_law_821 : decode cL_law 821 = .ok (.invokevirtual 107, 3) := by decide +kernel
theorem dL_law_824 : decode cL_law 824 = .ok (.aload_n 2, 1) := by decide +kernel
theorem dL_law_825 : decode cL_law 825 = .ok (.aload_n 0, 1) := by decide +kernel
theorem dL_law_826 : decode cL_law 826 = .ok (.iload_n 3, 1) := by decide +kernel
theorem dL_law_827 : decode cL_law 827 = .ok (.iconst 1, 1) := by decide +kernel
theorem dL_law_828 : decode cL_law 828 = .ok (.iadd, 1) := by decide +kernel
theorem dL_law_829 : decode cL_law 829 = .ok (.iaload, 1) := by decide +kernel
theorem dL_law_830 : decode cL_law 830 = .ok (.aload_n 0, 1) := by decide +kernel
theorem dL_law_831 : decode cL_law 831 = .ok (.iload_n 3, 1) := by decide +kernel
theorem dL_law_832 : decode cL_law 832 = .ok (.iconst 2, 1) := by decide +kernel
theorem dL_law_833 : decode cL_law 833 = .ok (.iadd, 1) := by decide +kernel
theorem dL_law_834 : decode cL_law 834 = .ok (.iaload, 1) := by decide +kernel
theorem dL_law_835 : decode cL_law 835 = .ok (.aload_n 0, 1) := by decide +kernel
theorem dL_law_836 : decode cL_law 836 = .ok (.iload_n 3, 1) := by decide +kernel
theorem dL_law_837 : decode cL_law 837 = .ok (.iconst 3, 1) := by decide +kernel
theorem dL_law_838 : decode cL_law 838 = .ok (.iadd, 1) := by decide +kernel
theorem dL_law_839 : decode cL_law 839 = .ok (.iaload, 1) := by decide +kernel
theorem dL_law_840 : decode cL_law 840 = .ok (.invokevirtual 110, 3) := by decide +kernel
theorem dL_law_843 : decode cL_law 843 = .ok (.if_icmp .eq 494, 3) := by decide +kernel
theorem dL_law_846 : decode cL_law 846 = .ok (.iconst 0, 1) := by decide +kernel
theorem dL_law_847 : decode cL_law 847 = .ok (.ireturn, 1) := by decide +kernel
theorem dL_law_848 : decode cL_law 848 = .ok (.aload_n 1, 1) := by decide +kernel
theorem dL_law_849 : decode cL_law 849 = .ok (.aload_n 0, 1) := by decide +kernel
theorem dL_law_850 : decode cL_law 850 = .ok (.iload_n 3, 1) := by decide +kernel
theorem dL_law_851 : decode cL_law 851 = .ok (.iconst 1, 1) := by decide +kernel
theorem dL_law_852 : decode cL_law 852 = .ok (.iadd, 1) := by decide +kernel
theorem dL_law_853 : decode cL_law 853 = .ok (.iaload, 1) := by decide +kernel
theorem dL_law_854 : decode cL_law 854 = .ok (.aload_n 0, 1) := by decide +kernel
theorem dL_law_855 : decode cL_law 855 = .ok (.iload_n 3, 1) := by decide +kernel
theorem dL_law_856 : decode cL_law 856 = .ok (.iconst 2, 1) := by decide +kernel
theorem dL_law_857 : decode cL_law 857 = .ok (.iadd, 1) := by decide +kernel
theorem dL_law_858 : decode cL_law 858 = .ok (.iaload, 1) := by decide +kernel
theorem dL_law_859 : decode cL_law 859 = .ok (.aload_n 0, 1) := by decide +kernel
theorem dL_law_860 : decode cL_law 860 = .ok (.iload_n 3, 1) := by decide +kernel
theorem dL_law_861 : decode cL_law 861 = .ok (.iconst 3, 1) := by decide +kernel
theorem dL_law_862 : decode cL_law 862 = .ok (.iadd, 1) := by decide +kernel
theorem dL_law_863 : decode cL_law 863 = .ok (.iaload, 1) := by decide +kernel
theorem dL_law_864 : decode cL_law 864 = .ok (.aload_n 0, 1) := by decide +kernel
theorem dL_law_865 : decode cL_law 865 = .ok (.iload_n 3, 1) := by decide +kernel
theorem dL_law_866 : decode cL_law 866 = .ok (.iconst 4, 1) := by decide +kernel
theorem dL_law_867 : decode cL_law 867 = .ok (.iadd, 1) := by decide +kernel
theorem dL_law_868 : decode cL_law 868 = .ok (.iaload, 1) := by decide +kernel
theorem dL_law_869 : decode cL_law 869 = .ok (.aload_n 0, 1) := by decide +kernel
theorem dL_law_870 : decode cL_law 870 = .ok (.iload_n 3, 1) := by decide +kernel
theorem dL_law_871 : decode cL_law 871 = .ok (.iconst 5, 1) := by decide +kernel
theorem dL_law_872 : decode cL_law 872 = .ok (.iadd, 1) := by decide +kernel
theorem dL_law_873 : decode cL_law 873 = .ok (.iaload, 1) := by decide +kernel
theorem dL_law_874 : decode cL_law 874 = .ok (.invokevirtual 111, 3) := by decide +kernel
theorem dL_law_877 : decode cL_law 877 = .ok (.aload_n 2, 1) := by decide +kernel
theorem dL_law_878 : decode cL_law 878 = .ok (.aload_n 0, 1) := by decide +kernel
theorem dL_law_879 : decode cL_law 879 = .ok (.iload_n 3, 1) := by decide +kernel
theorem dL_law_880 : decode cL_law 880 = .ok (.iconst 1, 1) := by decide +kernel
theorem dL_law_881 : decode cL_law 881 = .ok (.iadd, 1) := by decide +kernel
theorem dL_law_882 : decode cL_law 882 = .ok (.iaload, 1) := by decide +kernel
theorem dL_law_883 : decode cL_law 883 = .ok (.aload_n 0, 1) := by decide +kernel
theorem dL_law_884 : decode cL_law 884 = .ok (.iload_n 3, 1) := by decide +kernel
theorem dL_law_885 : decode cL_law 885 = .ok (.iconst 2, 1) := by decide +kernel
theorem dL_law_886 : decode cL_law 886 = .ok (.iadd, 1) := by decide +kernel
theorem dL_law_887 : decode cL_law 887 = .ok (.iaload, 1) := by decide +kernel
theorem dL_law_888 : decode cL_law 888 = .ok (.aload_n 0, 1) := by decide +kernel
theorem dL_law_889 : decode cL_law 889 = .ok (.iload_n 3, 1) := by decide +kernel
theorem dL_law_890 : decode cL_law 890 = .ok (.iconst 3, 1) := by decide +kernel
theorem dL_law_891 : decode cL_law 891 = .ok (.iadd, 1) := by decide +kernel
theorem dL_law_892 : decode cL_law 892 = .ok (.iaload, 1) := by decide +kernel
theorem dL_law_893 : decode cL_law 893 = .ok (.aload_n 0, 1) := by decide +kernel
theorem dL_law_894 : decode cL_law 894 = .ok (.iload_n 3, 1) := by decide +kernel
theorem dL_law_895 : decode cL_law 895 = .ok (.iconst 4, 1) := by decide +kernel
theorem dL_law_896 : decode cL_law 896 = .ok (.iadd, 1) := by decide +kernel
theorem dL_law_897 : decode cL_law 897 = .ok (.iaload, 1) := by decide +kernel
theorem dL_law_898 : decode cL_law 898 = .ok (.aload_n 0, 1) := by decide +kernel
theorem dL_law_899 : decode cL_law 899 = .ok (.iload_n 3, 1) := by decide +kernel
theorem dL_law_900 : decode cL_law 900 = .ok (.iconst 5, 1) := by decide +kernel
theorem dL_law_901 : decode cL_law 901 = .ok (.iadd, 1) := by decide +kernel
theorem dL_law_902 : decode cL_law 902 = .ok (.iaload, 1) := by decide +kernel
theorem dL_law_903 : decode cL_law 903 = .ok (.invokevirtual 115, 3) := by decide +kernel
theorem dL_law_906 : decode cL_law 906 = .ok (.lcmp, 1) := by decide +kernel
theorem dL_law_907 : decode cL_law 907 = .ok (.ifCond .eq 430, 3) := by decide +kernel
theorem dL_law_910 : decode cL_law 910 = .ok (.iconst 0, 1) := by decide +kernel
theorem dL_law_911 : decode cL_law 911 = .ok (.ireturn, 1) := by decide +kernel
theorem dL_law_912 : decode cL_law 912 = .ok (.aload_n 1, 1) := by decide +kernel
theorem dL_law_913 : decode cL_law 913 = .ok (.aload_n 0, 1) := by decide +kernel
theorem dL_law_914 : decode cL_law 914 = .ok (.iload_n 3, 1) := by decide +kernel
theorem dL_law_915 : decode cL_law 915 = .ok (.iconst 1, 1) := by decide +kernel
theorem dL_law_916 : decode cL_law 916 = .ok (.iadd, 1) := by decide +kernel
theorem dL_law_917 : decode cL_law 917 = .ok (.iaload, 1) := by decide +kernel
theorem dL_law_918 : decode cL_law 918 = .ok (.aload_n 0, 1) := by decide +kernel
theorem dL_law_919 : decode cL_law 919 = .ok (.iload_n 3, 1) := by decide +kernel
theorem dL_law_920 : decode cL_law 920 = .ok (.iconst 2, 1) := by decide +kernel
theorem dL_law_921 : decode cL_law 921 = .ok (.iadd, 1) := by decide +kernel
theorem dL_law_922 : decode cL_law 922 = .ok (.iaload, 1) := by decide +kernel
theorem dL_law_923 : decode cL_law 923 = .ok (.aload_n 0, 1) := by decide +kernel
theorem dL_law_924 : decode cL_law 924 = .ok (.iload_n 3, 1) := by decide +kernel
theorem dL_law_925 : decode cL_law 925 = .ok (.iconst 3, 1) := by decide +kernel
theorem dL_law_926 : decode cL_law 926 = .ok (.iadd, 1) := by decide +kernel
theorem dL_law_927 : decode cL_law 927 = .ok (.iaload, 1) := by decide +kernel
theorem dL_law_928 : decode cL_law 928 = .ok (.aload_n 0, 1) := by decide +kernel
theorem dL_law_929 : decode cL_law 929 = .ok (.iload_n 3, 1) := by decide +kernel
theorem dL_law_930 : decode cL_law 930 = .ok (.iconst 4, 1) := by decide +kernel
theorem dL_law_931 : decode cL_law 931 = .ok (.iadd, 1) := by decide +kernel
theorem dL_law_932 : decode cL_law 932 = .ok (.iaload, 1) := by decide +kernel
theorem dL_law_933 : decode cL_law 933 = .ok (.aload_n 0, 1) := by decide +kernel
theorem dL_law_934 : decode cL_law 934 = .ok (.iload_n 3, 1) := by decide +kernel
theorem dL_law_935 : decode cL_law 935 = .ok (.iconst 5, 1) := by decide +kernel
theorem dL_law_936 : decode cL_law 936 = .ok (.iadd, 1) := by decide +kernel
theorem dL_law_937 : decode cL_law 937 = .ok (.iaload, 1) := by decide +kernel
theorem dL_law_938 : decode cL_law 938 = .ok (.invokevirtual 116, 3) := by decide +kernel
theorem dL_law_941 : decode cL_law 941 = .ok (.aload_n 2, 1) := by decide +kernel
theorem dL_law_942 : decode cL_law 942 = .ok (.aload_n 0, 1) := by decide +kernel
theorem dL_law_943 : decode cL_law 943 = .ok (.iload_n 3, 1) := by decide +kernel
theorem dL_law_944 : decode cL_law 944 = .ok (.iconst 1, 1) := by decide +kernel
theorem dL_law_945 : decode cL_law 945 = .ok (.iadd, 1) := by decide +kernel
theorem dL_law_946 : decode cL_law 946 = .ok (.iaload, 1) := by decide +kernel
theorem dL_law_947 : decode cL_law 947 = .ok (.aload_n 0, 1) := by decide +kernel
theorem dL_law_948 : decode cL_law 948 = .ok (.iload_n 3, 1) := by decide +kernel
theorem dL_law_949 : decode cL_law 949 = .ok (.iconst 2, 1) := by decide +kernel
theorem dL_law_950 : decode cL_law 950 = .ok (.iadd, 1) := by decide +kernel
theorem dL_law_951 : decode cL_law 951 = .ok (.iaload, 1) := by decide +kernel
theorem dL_law_952 : decode cL_law 952 = .ok (.aload_n 0, 1) := by decide +kernel
theorem dL_law_953 : decode cL_law 953 = .ok (.iload_n 3, 1) := by decide +kernel
theorem dL_law_954 : decode cL_law 954 = .ok (.iconst 3, 1) := by decide +kernel
theorem dL_law_955 : decode cL_law 955 = .ok (.iadd, 1) := by decide +kernel
theorem dL_law_956 : decode cL_law 956 = .ok (.iaload, 1) := by decide +kernel
theorem dL_law_957 : decode cL_law 957 = .ok (.aload_n 0, 1) := by decide +kernel
theorem dL_law_958 : decode cL_law 958 = .ok (.iload_n 3, 1) := by decide +kernel
theorem dL_law_959 : decode cL_law 959 = .ok (.iconst 4, 1) := by decide +kernel
theorem dL_law_960 : decode cL_law 960 = .ok (.iadd, 1) := by decide +kernel
theorem dL_law_961 : decode cL_law 961 = .ok (.iaload, 1) := by decide +kernel
theorem dL_law_962 : decode cL_law 962 = .ok (.aload_n 0, 1) := by decide +kernel
theorem dL_law_963 : decode cL_law 963 = .ok (.iload_n 3, 1) := by decide +kernel
theorem dL_law_964 : decode cL_law 964 = .ok (.iconst 5, 1) := by decide +kernel
theorem dL_law_965 : decode cL_law 965 = .ok (.iadd, 1) := by decide +kernel
theorem dL_law_966 : decode cL_law 966 = .ok (.iaload, 1) := by decide +kernel
theorem dL_law_967 : decode cL_law 967 = .ok (.invokevirtual 119, 3) := by decide +kernel
theorem dL_law_970 : decode cL_law 970 = .ok (.lcmp, 1) := by decide +kernel
theorem dL_law_971 : decode cL_law 971 = .ok (.ifCond .eq 366, 3) := by decide +kernel
theorem dL_law_974 : decode cL_law 974 = .ok (.iconst 0, 1) := by decide +kernel
theorem dL_law_975 : decode cL_law 975 = .ok (.ireturn, 1) := by decide +kernel
theorem dL_law_976 : decode cL_law 976 = .ok (.aload_n 1, 1) := by decide +kernel
theorem dL_law_977 : decode cL_law 977 = .ok (.aload_n 0, 1) := by decide +kernel
theorem dL_law_978 : decode cL_law 978 = .ok (.iload_n 3, 1) := by decide +kernel
theorem dL_law_979 : decode cL_law 979 = .ok (.iconst 1, 1) := by decide +kernel
theorem dL_law_980 : decode cL_law 980 = .ok (.iadd, 1) := by decide +kernel
theorem dL_law_981 : decode cL_law 981 = .ok (.iaload, 1) := by decide +kernel
theorem dL_law_982 : decode cL_law 982 = .ok (.aload_n 0, 1) := by decide +kernel
theorem dL_law_983 : decode cL_law 983 = .ok (.iload_n 3, 1) := by decide +kernel
theorem dL_law_984 : decode cL_law 984 = .ok (.iconst 2, 1) := by decide +kernel
theorem dL_law_985 : decode cL_law 985 = .ok (.iadd, 1) := by decide +kernel
theorem dL_law_986 : decode cL_law 986 = .ok (.iaload, 1) := by decide +kernel
theorem dL_law_987 : decode cL_law 987 = .ok (.aload_n 0, 1) := by decide +kernel
theorem dL_law_988 : decode cL_law 988 = .ok (.iload_n 3, 1) := by decide +kernel
theorem dL_law_989 : decode cL_law 989 = .ok (.iconst 3, 1) := by decide +kernel
theorem dL_law_990 : decode cL_law 990 = .ok (.iadd, 1) := by decide +kernel
theorem dL_law_991 : decode cL_law 991 = .ok (.iaload, 1) := by decide +kernel
theorem dL_law_992 : decode cL_law 992 = .ok (.invokevirtual 120, 3) := by decide +kernel
theorem dL_law_995 : decode cL_law 995 = .ok (.aload_n 2, 1) := by decide +kernel
theorem dL_law_996 : decode cL_law 996 = .ok (.aload_n 0, 1) := by decide +kernel
theorem dL_law_997 : decode cL_law 997 = .ok (.iload_n 3, 1) := by decide +kernel
theorem dL_law_998 : decode cL_law 998 = .ok (.iconst 1, 1) := by decide +kernel
theorem dL_law_999 : decode cL_law 999 = .ok (.iadd, 1) := by decide +kernel
theorem dL_law_1000 : decode cL_law 1000 = .ok (.iaload, 1) := by decide +kernel
theorem dL_law_1001 : decode cL_law 1001 = .ok (.aload_n 0, 1) := by decide +kernel
theorem dL_law_1002 : decode cL_law 1002 = .ok (.iload_n 3, 1) := by decide +kernel
theorem dL_law_1003 : decode cL_law 1003 = .ok (.iconst 2, 1) := by decide +kernel
theorem dL_law_1004 : decode cL_law 1004 = .ok (.iadd, 1) := by decide +kernel
theorem dL_law_1005 : decode cL_law 1005 = .ok (.iaload, 1) := by decide +kernel
theorem dL_law_1006 : decode cL_law 1006 = .ok (.aload_n 0, 1) := by decide +kernel
theorem dL_law_1007 : decode cL_law 1007 = .ok (.iload_n 3, 1) := by decide +kernel
theorem dL_law_1008 : decode cL_law 1008 = .ok (.iconst 3, 1) := by decide +kernel
theorem dL_law_1009 : decode cL_law 1009 = .ok (.iadd, 1) := by decide +kernel
theorem dL_law_1010 : decode cL_law 1010 = .ok (.iaload, 1) := by decide +kernel
theorem dL_law_1011 : decode cL_law 1011 = .ok (.invokevirtual 123, 3) := by decide +kernel
theorem dL_law_1014 : decode cL_law 1014 = .ok (.if_icmp .eq 323, 3) := by decide +kernel
theorem dL_law_1017 : decode cL_law 1017 = .ok (.iconst 0, 1) := by decide +kernel
theorem dL_law_1018 : decode cL_law 1018 = .ok (.ireturn, 1) := by decide +kernel
theorem dL_law_1019 : decode cL_law 1019 = .ok (.aload_n 1, 1) := by decide +kernel
theorem dL_law_1020 : decode cL_law 1020 = .ok (.aload_n 0, 1) := by decide +kernel
theorem dL_law_1021 : decode cL_law 1021 = .ok (.iload_n 3, 1) := by decide +kernel
theorem dL_law_1022 : decode cL_law 1022 = .ok (.iconst 1, 1) := by decide +kernel
theorem dL_law_1023 : decode cL_law 1023 = .ok (.iadd, 1) := by decide +kernel
theorem dL_law_1024 : decode cL_law 1024 = .ok (.iaload, 1) := by decide +kernel
theorem dL_law_1025 : decode cL_law 1025 = .ok (.aload_n 0, 1) := by decide +kernel
theorem dL_law_1026 : decode cL_law 1026 = .ok (.iload_n 3, 1) := by decide +kernel
theorem dL_law_1027 : decode cL_law 1027 = .ok (.iconst 2, 1) := by decide +kernel
theorem dL_law_1028 : decode cL_law 1028 = .ok (.iadd, 1) := by decide +kernel
theorem dL_law_1029 : decode cL_law 1029 = .ok (.iaload, 1) := by decide +kernel
theorem dL_law_1030 : decode cL_law 1030 = .ok (.invokevirtual 124, 3) := by decide +kernel
theorem dL_law_1033 : decode cL_law 1033 = .ok (.aload_n 2, 1) := by decide +kernel
theorem dL_law_1034 : decode cL_law 1034 = .ok (.aload_n 0, 1) := by decide +kernel
theorem dL_law_1035 : decode cL_law 1035 = .ok (.iload_n 3, 1) := by decide +kernel
theorem dL_law_1036 : decode cL_law 1036 = .ok (.iconst 1, 1) := by decide +kernel
theorem dL_law_1037 : decode cL_law 1037 = .ok (.iadd, 1) := by decide +kernel
theorem dL_law_1038 : decode cL_law 1038 = .ok (.iaload, 1) := by decide +kernel
theorem dL_law_1039 : decode cL_law 1039 = .ok (.aload_n 0, 1) := by decide +kernel
theorem dL_law_1040 : decode cL_law 1040 = .ok (.iload_n 3, 1) := by decide +kernel
theorem dL_law_1041 : decode cL_law 1041 = .ok (.iconst 2, 1) := by decide +kernel
theorem dL_law_1042 : decode cL_law 1042 = .ok (.iadd, 1) := by decide +kernel
theorem dL_law_1043 : decode cL_law 1043 = .ok (.iaload, 1) := by decide +kernel
theorem dL_law_1044 : decode cL_law 1044 = .ok (.invokevirtual 127, 3) := by decide +kernel
theorem dL_law_1047 : decode cL_law 1047 = .ok (.if_icmp .eq 290, 3) := by decide +kernel
theorem dL_law_1050 : decode cL_law 1050 = .ok (.iconst 0, 1) := by decide +kernel
theorem dL_law_1051 : decode cL_law 1051 = .ok (.ireturn, 1) := by decide +kernel
theorem dL_law_1052 : decode cL_law 1052 = .ok (.aload_n 1, 1) := by decide +kernel
theorem dL_law_1053 : decode cL_law 1053 = .ok (.aload_n 0, 1) := by decide +kernel
theorem dL_law_1054 : decode cL_law 1054 = .ok (.iload_n 3, 1) := by decide +kernel
theorem dL_law_1055 : decode cL_law 1055 = .ok (.iconst 1, 1) := by decide +kernel
theorem dL_law_1056 : decode cL_law 1056 = .ok (.iadd, 1) := by decide +kernel
theorem dL_law_1057 : decode cL_law 1057 = .ok (.iaload, 1) := by decide +kernel
theorem dL_law_1058 : decode cL_law 1058 = .ok (.aload_n 0, 1) := by decide +kernel
theorem dL_law_1059 : decode cL_law 1059 = .ok (.iload_n 3, 1) := by decide +kernel
theorem dL_law_1060 : decode cL_law 1060 = .ok (.iconst 2, 1) := by decide +kernel
theorem dL_law_1061 : decode cL_law 1061 = .ok (.iadd, 1) := by decide +kernel
theorem dL_law_1062 : decode cL_law 1062 = .ok (.iaload, 1) := by decide +kernel
theorem dL_law_1063 : decode cL_law 1063 = .ok (.aload_n 0, 1) := by decide +kernel
theorem dL_law_1064 : decode cL_law 1064 = .ok (.iload_n 3, 1) := by decide +kernel
theorem dL_law_1065 : decode cL_law 1065 = .ok (.iconst 3, 1) := by decide +kernel
theorem dL_law_1066 : decode cL_law 1066 = .ok (.iadd, 1) := by decide +kernel
theorem dL_law_1067 : decode cL_law 1067 = .ok (.iaload, 1) := by decide +kernel
theorem dL_law_1068 : decode cL_law 1068 = .ok (.invokevirtual 128, 3) := by decide +kernel
theorem dL_law_1071 : decode cL_law 1071 = .ok (.aload_n 2, 1) := by decide +kernel
theorem dL_law_1072 : decode cL_law 1072 = .ok (.aload_n 0, 1) := by decide +kernel
theorem dL_law_1073 : decode cL_law 1073 = .ok (.iload_n 3, 1) := by decide +kernel
theorem dL_law_1074 : decode cL_law 1074 = .ok (.iconst 1, 1) := by decide +kernel
theorem dL_law_1075 : decode cL_law 1075 = .ok (.iadd, 1) := by decide +kernel
theorem dL_law_1076 : decode cL_law 1076 = .ok (.iaload, 1) := by decide +kernel
theorem dL_law_1077 : decode cL_law 1077 = .ok (.aload_n 0, 1) := by decide +kernel
theorem dL_law_1078 : decode cL_law 1078 = .ok (.iload_n 3, 1) := by decide +kernel
theorem dL_law_1079 : decode cL_law 1079 = .ok (.iconst 2, 1) := by decide +kernel
theorem dL_law_1080 : decode cL_law 1080 = .ok (.iadd, 1) := by decide +kernel
theorem dL_law_1081 : decode cL_law 1081 = .ok (.iaload, 1) := by decide +kernel
theorem dL_law_1082 : decode cL_law 1082 = .ok (.aload_n 0, 1) := by decide +kernel
theorem dL_law_1083 : decode cL_law 1083 = .ok (.iload_n 3, 1) := by decide +kernel
theorem dL_law_1084 : decode cL_law 1084 = .ok (.iconst 3, 1) := by decide +kernel
theorem dL_law_1085 : decode cL_law 1085 = .ok (.iadd, 1) := by decide +kernel
theorem dL_law_1086 : decode cL_law 1086 = .ok (.iaload, 1) := by decide +kernel
theorem dL_law_1087 : decode cL_law 1087 = .ok (.invokevirtual 131, 3) := by decide +kernel
theorem dL_law_1090 : decode cL_law 1090 = .ok (.if_icmp .eq 247, 3) := by decide +kernel
theorem dL_law_1093 : decode cL_law 1093 = .ok (.iconst 0, 1) := by decide +kernel
theorem dL_law_1094 : decode cL_law 1094 = .ok (.ireturn, 1) := by decide +kernel
theorem dL_law_1095 : decode cL_law 1095 = .ok (.aload_n 1, 1) := by decide +kernel
theorem dL_law_1096 : decode cL_law 1096 = .ok (.aload_n 0, 1) := by decide +kernel
theorem dL_law_1097 : decode cL_law 1097 = .ok (.iload_n 3, 1) := by decide +kernel
theorem dL_law_1098 : decode cL_law 1098 = .ok (.iconst 1, 1) := by decide +kernel
theorem dL_law_1099 : decode cL_law 1099 = .ok (.iadd, 1) := by decide +kernel
theorem dL_law_1100 : decode cL_law 1100 = .ok (.iaload, 1) := by decide +kernel
theorem dL_law_1101 : decode cL_law 1101 = .ok (.invokevirtual 132, 3) := by decide +kernel
theorem dL_law_1104 : decode cL_law 1104 = .ok (.aload_n 2, 1) := by decide +kernel
theorem dL_law_1105 : decode cL_law 1105 = .ok (.aload_n 0, 1) := by decide +kernel
theorem dL_law_1106 : decode cL_law 1106 = .ok (.iload_n 3, 1) := by decide +kernel
theorem dL_law_1107 : decode cL_law 1107 = .ok (.iconst 1, 1) := by decide +kernel
theorem dL_law_1108 : decode cL_law 1108 = .ok (.iadd, 1) := by decide +kernel
theorem dL_law_1109 : decode cL_law 1109 = .ok (.iaload, 1) := by decide +kernel
theorem dL_law_1110 : decode cL_law 1110 = .ok (.invokevirtual 135, 3) := by decide +kernel
theorem dL_law_1113 : decode cL_law 1113 = .ok (.if_icmp .eq 224, 3) := by decide +kernel
theorem dL_law_1116 : decode cL_law 1116 = .ok (.iconst 0, 1) := by decide +kernel
theorem dL_law_1117 : decode cL_law 1117 = .ok (.ireturn, 1) := by decide +kernel
theorem dL_law_1118 : decode cL_law 1118 = .ok (.aload_n 1, 1) := by decide +kernel
theorem dL_law_1119 : decode cL_law 1119 = .ok (.aload_n 0, 1) := by decide +kernel
theorem dL_law_1120 : decode cL_law 1120 = .ok (.iload_n 3, 1) := by decide +kernel
theorem dL_law_1121 : decode cL_law 1121 = .ok (.iconst 1, 1) := by decide +kernel
theorem dL_law_1122 : decode cL_law 1122 = .ok (.iadd, 1) := by decide +kernel
theorem dL_law_1123 : decode cL_law 1123 = .ok (.iaload, 1) := by decide +kernel
theorem dL_law_1124 : decode cL_law 1124 = .ok (.aload_n 0, 1) := by decide +kernel
theorem dL_law_1125 : decode cL_law 1125 = .ok (.iload_n 3, 1) := by decide +kernel
theorem dL_law_1126 : decode cL_law 1126 = .ok (.iconst 2, 1) := by decide +kernel
theorem dL_law_1127 : decode cL_law 1127 = .ok (.iadd, 1) := by decide +kernel
theorem dL_law_1128 : decode cL_law 1128 = .ok (.iaload, 1) := by decide +kernel
theorem dL_law_1129 : decode cL_law 1129 = .ok (.aload_n 0, 1) := by decide +kernel
theorem dL_law_1130 : decode cL_law 1130 = .ok (.iload_n 3, 1) := by decide +kernel
theorem dL_law_1131 : decode cL_law 1131 = .ok (.iconst 3, 1) := by decide +kernel
theorem dL_law_1132 : decode cL_law 1132 = .ok (.iadd, 1) := by decide +kernel
theorem dL_law_1133 : decode cL_law 1133 = .ok (.iaload, 1) := by decide +kernel
theorem dL_law_1134 : decode cL_law 1134 = .ok (.aload_n 0, 1) := by decide +kernel
theorem dL_law_1135 : decode cL_law 1135 = .ok (.iload_n 3, 1) := by decide +kernel
theorem dL_law_1136 : decode cL_law 1136 = .ok (.iconst 4, 1) := by decide +kernel
theorem dL_law_1137 : decode cL_law 1137 = .ok (.iadd, 1) := by decide +kernel
theorem dL_law_1138 : decode cL_law 1138 = .ok (.iaload, 1) := by decide +kernel
theorem dL_law_1139 : decode cL_law 1139 = .ok (.invokevirtual 136, 3) := by decide +kernel
theorem dL_law_1142 : decode cL_law 1142 = .ok (.aload_n 2, 1) := by decide +kernel
theorem dL_law_1143 : decode cL_law 1143 = .ok (.aload_n 0, 1) := by decide +kernel
theorem dL_law_1144 : decode cL_law 1144 = .ok (.iload_n 3, 1) := by decide +kernel
theorem dL_law_1145 : decode cL_law 1145 = .ok (.iconst 1, 1) := by decide +kernel
theorem dL_law_1146 : decode cL_law 1146 = .ok (.iadd, 1) := by decide +kernel
theorem dL_law_1147 : decode cL_law 1147 = .ok (.iaload, 1) := by decide +kernel
theorem dL_law_1148 : decode cL_law 1148 = .ok (.aload_n 0, 1) := by decide +kernel
theorem dL_law_1149 : decode cL_law 1149 = .ok (.iload_n 3, 1) := by decide +kernel
theorem dL_law_1150 : decode cL_law 1150 = .ok (.iconst 2, 1) := by decide +kernel
theorem dL_law_1151 : decode cL_law 1151 = .ok (.iadd, 1) := by decide +kernel
theorem dL_law_1152 : decode cL_law 1152 = .ok (.iaload, 1) := by decide +kernel
theorem dL_law_1153 : decode cL_law 1153 = .ok (.aload_n 0, 1) := by decide +kernel
theorem dL_law_1154 : decode cL_law 1154 = .ok (.iload_n 3, 1) := by decide +kernel
theorem dL_law_1155 : decode cL_law 1155 = .ok (.iconst 3, 1) := by decide +kernel
theorem dL_law_1156 : decode cL_law 1156 = .ok (.iadd, 1) := by decide +kernel
theorem dL_law_1157 : decode cL_law 1157 = .ok (.iaload, 1) := by decide +kernel
theorem dL_law_1158 : decode cL_law 1158 = .ok (.aload_n 0, 1) := by decide +kernel
theorem dL_law_1159 : decode cL_law 1159 = .ok (.iload_n 3, 1) := by decide +kernel
theorem dL_law_1160 : decode cL_law 1160 = .ok (.iconst 4, 1) := by decide +kernel
theorem dL_law_1161 : decode cL_law 1161 = .ok (.iadd, 1) := by decide +kernel
theorem dL_law_1162 : decode cL_law 1162 = .ok (.iaload, 1) := by decide +kernel
theorem dL_law_1163 : decode cL_law 1163 = .ok (.invokevirtual 139, 3) := by decide +kernel
theorem dL_law_1166 : decode cL_law 1166 = .ok (.if_icmp .eq 171, 3) := by decide +kernel
theorem dL_law_1169 : decode cL_law 1169 = .ok (.iconst 0, 1) := by decide +kernel
theorem dL_law_1170 : decode cL_law 1170 = .ok (.ireturn, 1) := by decide +kernel
theorem dL_law_1171 : decode cL_law 1171 = .ok (.aload_n 1, 1) := by decide +kernel
theorem dL_law_1172 : decode cL_law 1172 = .ok (.aload_n 0, 1) := by decide +kernel
theorem dL_law_1173 : decode cL_law 1173 = .ok (.iload_n 3, 1) := by decide +kernel
theorem dL_law_1174 : decode cL_law 1174 = .ok (.iconst 1, 1) := by decide +kernel
theorem dL_law_1175 : decode cL_law 1175 = .ok (.iadd, 1) := by decide +kernel
theorem dL_law_1176 : decode cL_law 1176 = .ok (.iaload, 1) := by decide +kernel
theorem dL_law_1177 : decode cL_law 1177 = .ok (.aload_n 0, 1) := by decide +kernel
theorem dL_law_1178 : decode cL_law 1178 = .ok (.iload_n 3, 1) := by decide +kernel
theorem dL_law_1179 : decode cL_law 1179 = .ok (.iconst 2, 1) := by decide +kernel
theorem dL_law_1180 : decode cL_law 1180 = .ok (.iadd, 1) := by decide +kernel
theorem dL_law_1181 : decode cL_law 1181 = .ok (.iaload, 1) := by decide +kernel
theorem dL_law_1182 : decode cL_law 1182 = .ok (.aload_n 0, 1) := by decide +kernel
theorem dL_law_1183 : decode cL_law 1183 = .ok (.iload_n 3, 1) := by decide +kernel
theorem dL_law_1184 : decode cL_law 1184 = .ok (.iconst 3, 1) := by decide +kernel
theorem dL_law_1185 : decode cL_law 1185 = .ok (.iadd, 1) := by decide +kernel
theorem dL_law_1186 : decode cL_law 1186 = .ok (.iaload, 1) := by decide +kernel
theorem dL_law_1187 : decode cL_law 1187 = .ok (.invokevirtual 140, 3) := by decide +kernel
theorem dL_law_1190 : decode cL_law 1190 = .ok (.aload_n 2, 1) := by decide +kernel
theorem dL_law_1191 : decode cL_law 1191 = .ok (.aload_n 0, 1) := by decide +kernel
theorem dL_law_1192 : decode cL_law 1192 = .ok (.iload_n 3, 1) := by decide +kernel
theorem dL_law_1193 : decode cL_law 1193 = .ok (.iconst 1, 1) := by decide +kernel
theorem dL_law_1194 : decode cL_law 1194 = .ok (.iadd, 1) := by decide +kernel
theorem dL_law_1195 : decode cL_law 1195 = .ok (.iaload, 1) := by decide +kernel
theorem dL_law_1196 : decode cL_law 1196 = .ok (.aload_n 0, 1) := by decide +kernel
theorem dL_law_1197 : decode cL_law 1197 = .ok (.iload_n 3, 1) := by decide +kernel
theorem dL_law_1198 : decode cL_law 1198 = .ok (.iconst 2, 1) := by decide +kernel
theorem dL_law_1199 : decode cL_law 1199 = .ok (.iadd, 1) := by decide +kernel
theorem dL_law_1200 : decode cL_law 1200 = .ok (.iaload, 1) := by decide +kernel
theorem dL_law_1201 : decode cL_law 1201 = .ok (.aload_n 0, 1) := by decide +kernel
theorem dL_law_1202 : decode cL_law 1202 = .ok (.iload_n 3, 1) := by decide +kernel
theorem dL_law_1203 : decode cL_law 1203 = .ok (.iconst 3, 1) := by decide +kernel
theorem dL_law_1204 : decode cL_law 1204 = .ok (.iadd, 1) := by decide +kernel
theorem dL_law_1205 : decode cL_law 1205 = .ok (.iaload, 1) := by decide +kernel
theorem dL_law_1206 : decode cL_law 1206 = .ok (.invokevirtual 143, 3) := by decide +kernel
theorem dL_law_1209 : decode cL_law 1209 = .ok (.if_icmp .eq 128, 3) := by decide +kernel
theorem dL_law_1212 : decode cL_law 1212 = .ok (.iconst 0, 1) := by decide +kernel
theorem dL_law_1213 : decode cL_law 1213 = .ok (.ireturn, 1) := by decide +kernel
theorem dL_law_1214 : decode cL_law 1214 = .ok (.aload_n 1, 1) := by decide +kernel
theorem dL_law_1215 : decode cL_law 1215 = .ok (.aload_n 0, 1) := by decide +kernel
theorem dL_law_1216 : decode cL_law 1216 = .ok (.iload_n 3, 1) := by decide +kernel
theorem dL_law_1217 : decode cL_law 1217 = .ok (.iconst 1, 1) := by decide +kernel
theorem dL_law_1218 : decode cL_law 1218 = .ok (.iadd, 1) := by decide +kernel
theorem dL_law_1219 : decode cL_law 1219 = .ok (.iaload, 1) := by decide +kernel
theorem dL_law_1220 : decode cL_law 1220 = .ok (.aload_n 0, 1) := by decide +kernel
theorem dL_law_1221 : decode cL_law 1221 = .ok (.iload_n 3, 1) := by decide +kernel
theorem dL_law_1222 : decode cL_law 1222 = .ok (.iconst 2, 1) := by decide +kernel
theorem dL_law_1223 : decode cL_law 1223 = .ok (.iadd, 1) := by decide +kernel
theorem dL_law_1224 : decode cL_law 1224 = .ok (.iaload, 1) := by decide +kernel
theorem dL_law_1225 : decode cL_law 1225 = .ok (.aload_n 0, 1) := by decide +kernel
theorem dL_law_1226 : decode cL_law 1226 = .ok (.iload_n 3, 1) := by decide +kernel
theorem dL_law_1227 : decode cL_law 1227 = .ok (.iconst 3, 1) := by decide +kernel
theorem dL_law_1228 : decode cL_law 1228 = .ok (.iadd, 1) := by decide +kernel
theorem dL_law_1229 : decode cL_law 1229 = .ok (.iaload, 1) := by decide +kernel
theorem dL_law_1230 : decode cL_law 1230 = .ok (.aload_n 0, 1) := by decide +kernel
theorem dL_law_1231 : decode cL_law 1231 = .ok (.iload_n 3, 1) := by decide +kernel
theorem dL_law_1232 : decode cL_law 1232 = .ok (.iconst 4, 1) := by decide +kernel
theorem dL_law_1233 : decode cL_law 1233 = .ok (.iadd, 1) := by decide +kernel
theorem dL_law_1234 : decode cL_law 1234 = .ok (.iaload, 1) := by decide +kernel
theorem dL_law_1235 : decode cL_law 1235 = .ok (.aload_n 0, 1) := by decide +kernel
theorem dL_law_1236 : decode cL_law 1236 = .ok (.iload_n 3, 1) := by decide +kernel
theorem dL_law_1237 : decode cL_law 1237 = .ok (.iconst 5, 1) := by decide +kernel
theorem dL_law_1238 : decode cL_law 1238 = .ok (.iadd, 1) := by decide +kernel
theorem dL_law_1239 : decode cL_law 1239 = .ok (.iaload, 1) := by decide +kernel
theorem dL_law_1240 : decode cL_law 1240 = .ok (.invokevirtual 144, 3) := by decide +kernel
theorem dL_law_1243 : decode cL_law 1243 = .ok (.aload_n 2, 1) := by decide +kernel
theorem dL_law_1244 : decode cL_law 1244 = .ok (.aload_n 0, 1) := by decide +kernel
theorem dL_law_1245 : decode cL_law 1245 = .ok (.iload_n 3, 1) := by decide +kernel
theorem dL_law_1246 : decode cL_law 1246 = .ok (.iconst 1, 1) := by decide +kernel
theorem dL_law_1247 : decode cL_law 1247 = .ok (.iadd, 1) := by decide +kernel
theorem dL_law_1248 : decode cL_law 1248 = .ok (.iaload, 1) := by decide +kernel
theorem dL_law_1249 : decode cL_law 1249 = .ok (.aload_n 0, 1) := by decide +kernel
theorem dL_law_1250 : decode cL_law 1250 = .ok (.iload_n 3, 1) := by decide +kernel
theorem dL_law_1251 : decode cL_law 1251 = .ok (.iconst 2, 1) := by decide +kernel
theorem dL_law_1252 : decode cL_law 1252 = .ok (.iadd, 1) := by decide +kernel
theorem dL_law_1253 : decode cL_law 1253 = .ok (.iaload, 1) := by decide +kernel
theorem dL_law_1254 : decode cL_law 1254 = .ok (.aload_n 0, 1) := by decide +kernel
theorem dL_law_1255 : decode cL_law 1255 = .ok (.iload_n 3, 1) := by decide +kernel
theorem dL_law_1256 : decode cL_law 1256 = .ok (.iconst 3, 1) := by decide +kernel
theorem dL_law_1257 : decode cL_law 1257 = .ok (.iadd, 1) := by decide +kernel
theorem dL_law_1258 : decode cL_law 1258 = .ok (.iaload, 1) := by decide +kernel
theorem dL_law_1259 : decode cL_law 1259 = .ok (.aload_n 0, 1) := by decide +kernel
theorem dL_law_1260 : decode cL_law 1260 = .ok (.iload_n 3, 1) := by decide +kernel
theorem dL_law_1261 : decode cL_law 1261 = .ok (.iconst 4, 1) := by decide +kernel
theorem dL_law_1262 : decode cL_law 1262 = .ok (.iadd, 1) := by decide +kernel
theorem dL_law_1263 : decode cL_law 1263 = .ok (.iaload, 1) := by decide +kernel
theorem dL_law_1264 : decode cL_law 1264 = .ok (.aload_n 0, 1) := by decide +kernel
theorem dL_law_1265 : decode cL_law 1265 = .ok (.iload_n 3, 1) := by decide +kernel
theorem dL_law_1266 : decode cL_law 1266 = .ok (.iconst 5, 1) := by decide +kernel
theorem dL_law_1267 : decode cL_law 1267 = .ok (.iadd, 1) := by decide +kernel
theorem dL_law_1268 : decode cL_law 1268 = .ok (.iaload, 1) := by decide +kernel
theorem dL_law_1269 : decode cL_law 1269 = .ok (.invokevirtual 148, 3) := by decide +kernel
theorem dL_law_1272 : decode cL_law 1272 = .ok (.if_icmp .eq 65, 3) := by decide +kernel
theorem dL_law_1275 : decode cL_law 1275 = .ok (.iconst 0, 1) := by decide +kernel
theorem dL_law_1276 : decode cL_law 1276 = .ok (.ireturn, 1) := by decide +kernel
theorem dL_law_1277 : decode cL_law 1277 = .ok (.aload_n 1, 1) := by decide +kernel
theorem dL_law_1278 : decode cL_law 1278 = .ok (.aload_n 0, 1) := by decide +kernel
theorem dL_law_1279 : decode cL_law 1279 = .ok (.iload_n 3, 1) := by decide +kernel
theorem dL_law_1280 : decode cL_law 1280 = .ok (.iconst 1, 1) := by decide +kernel
theorem dL_law_1281 : decode cL_law 1281 = .ok (.iadd, 1) := by decide +kernel
theorem dL_law_1282 : decode cL_law 1282 = .ok (.iaload, 1) := by decide +kernel
theorem dL_law_1283 : decode cL_law 1283 = .ok (.invokevirtual 149, 3) := by decide +kernel
theorem dL_law_1286 : decode cL_law 1286 = .ok (.aload_n 2, 1) := by decide +kernel
theorem dL_law_1287 : decode cL_law 1287 = .ok (.aload_n 0, 1) := by decide +kernel
theorem dL_law_1288 : decode cL_law 1288 = .ok (.iload_n 3, 1) := by decide +kernel
theorem dL_law_1289 : decode cL_law 1289 = .ok (.iconst 1, 1) := by decide +kernel
theorem dL_law_1290 : decode cL_law 1290 = .ok (.iadd, 1) := by decide +kernel
theorem dL_law_1291 : decode cL_law 1291 = .ok (.iaload, 1) := by decide +kernel
theorem dL_law_1292 : decode cL_law 1292 = .ok (.invokevirtual 152, 3) := by decide +kernel
theorem dL_law_1295 : decode cL_law 1295 = .ok (.if_icmp .eq 42, 3) := by decide +kernel
theorem dL_law_1298 : decode cL_law 1298 = .ok (.iconst 0, 1) := by decide +kernel
theorem dL_law_1299 : decode cL_law 1299 = .ok (.ireturn, 1) := by decide +kernel
theorem dL_law_1300 : decode cL_law 1300 = .ok (.aload_n 1, 1) := by decide +kernel
theorem dL_law_1301 : decode cL_law 1301 = .ok (.aload_n 0, 1) := by decide +kernel
theorem dL_law_1302 : decode cL_law 1302 = .ok (.iload_n 3, 1) := by decide +kernel
theorem dL_law_1303 : decode cL_law 1303 = .ok (.iconst 1, 1) := by decide +kernel
theorem dL_law_1304 : decode cL_law 1304 = .ok (.iadd, 1) := by decide +kernel
theorem dL_law_1305 : decode cL_law 1305 = .ok (.iaload, 1) := by decide +kernel
theorem dL_law_1306 : decode cL_law 1306 = .ok (.invokevirtual 153, 3) := by decide +kernel
theorem dL_law_1309 : decode cL_law 1309 = .ok (.aload_n 2, 1) := by decide +kernel
theorem dL_law_1310 : decode cL_law 1310 = .ok (.aload_n 0, 1) := by decide +kernel
theorem dL_law_1311 : decode cL_law 1311 = .ok (.iload_n 3, 1) := by decide +kernel
theorem dL_law_1312 : decode cL_law 1312 = .ok (.iconst 1, 1) := by decide +kernel
theorem dL_law_1313 : decode cL_law 1313 = .ok (.iadd, 1) := by decide +kernel
theorem dL_law_1314 : decode cL_law 1314 = .ok (.iaload, 1) := by decide +kernel
theorem dL_law_1315 : decode cL_law 1315 = .ok (.invokevirtual 156, 3) := by decide +kernel
theorem dL_law_1318 : decode cL_law 1318 = .ok (.if_icmp .eq 19, 3) := by decide +kernel
theorem dL_law_1321 : decode cL_law 1321 = .ok (.iconst 0, 1) := by decide +kernel
theorem dL_law_1322 : decode cL_law 1322 = .ok (.ireturn, 1) := by decide +kernel
theorem dL_law_1323 : decode cL_law 1323 = .ok (.aload_n 1, 1) := by decide +kernel
theorem dL_law_1324 : decode cL_law 1324 = .ok (.invokevirtual 157, 3) := by decide +kernel
theorem dL_law_1327 : decode cL_law 1327 = .ok (.aload_n 2, 1) := by decide +kernel
theorem dL_law_1328 : decode cL_law 1328 = .ok (.invokevirtual 161, 3) := by decide +kernel
theorem dL_law_1331 : decode cL_law 1331 = .ok (.lcmp, 1) := by decide +kernel
theorem dL_law_1332 : decode cL_law 1332 = .ok (.ifCond .eq 5, 3) := by decide +kernel
theorem dL_law_1335 : decode cL_law 1335 = .ok (.iconst 0, 1) := by decide +kernel
theorem dL_law_1336 : decode cL_law 1336 = .ok (.ireturn, 1) := by decide +kernel
theorem dL_law_1337 : decode cL_law 1337 = .ok (.iinc 3 6, 3) := by decide +kernel
theorem dL_law_1340 : decode cL_law 1340 = .ok (.goto (-1322), 3) := by decide +kernel
theorem dL_law_1343 : decode cL_law 1343 = .ok (.iconst 1, 1) := by decide +kernel
theorem dL_law_1344 : decode cL_law 1344 = .ok (.ireturn, 1) := by decide +kernel
end
section
/-! ===== the words: those that hold through every call, and the nest's ===== -/
def zm_tb : List Cond := lw_tbl.filter goodWord
def zm_isN : Cond → Bool
  | .fieldLinkNest _ _ _ _ _ _ => true
  | .methodLinkNest _ _ _ _ => true
  | _ => false
def zm_nt : List Cond := lw_tbl.filter zm_isN
/-! ===== the picture: places instead of addresses; what is in them ===== -/
abbrev zm_S : Type := (Nat → Nat → Int32) × (Nat → Nat → Int64)
abbrev zm_H : Type := (FieldType × Nat × List Nat) ⊕ (Nat × List (Option Nat))
abbrev zm_M : Type := String × MethodName × ByteArray × Nat × Option FieldType
def zm_v (ad : Nat → Nat) : Value → Value
  | .ref k => .ref (ad k)
  | v => v
def zm_c (ad : Nat → Nat) (ty : FieldType) (rs : List Nat) (f : Nat → Int32) (g : Nat → Int64) : (Nat → Int32) ⊕ (Nat → Int64) ⊕ (Nat → UInt32) ⊕ (Nat → UInt64) ⊕ (Nat → Option Nat) :=
  match ty with
  | .long => .inr (.inl g)
  | .object _ => .inr (.inr (.inr (.inr (fun j => (rs[j]?).map ad))))
  | .array _ => .inr (.inr (.inr (.inr (fun j => (rs[j]?).map ad))))
  | _ => .inl f
def zm_o (ad : Nat → Nat) (f : Nat → Int32) (j : Nat) (o : Option Nat) : Value :=
  match o with
  | some p => .ref (ad p)
  | none => .int (f j)
def zm_E (ca : FieldType → ClassId) (ad : Nat → Nat) (h : zm_H) (f : Nat → Int32) (g : Nat → Int64) : va_E :=
  match h with
  | .inl (ty, n, rs) => .inl (ca ty, n, zm_c ad ty rs f g)
  | .inr (ci, fs) => .inr (ci, fs.mapIdx (zm_o ad f))
def zm_W (SH : List zm_H) (ca : FieldType → ClassId) (ad : Nat → Nat) (w : zm_S) : va_W := SH.mapIdx (fun k h => (ad k, zm_E ca ad h (w.1 k) (w.2 k)))
def zm_pa (w : zm_S) (k : Nat) (f : Nat → Int32) : zm_S := (fun k' => if k' = k then f else w.1 k', w.2)
def zm_qa (w : zm_S) (k : Nat) (g : Nat → Int64) : zm_S := (w.1, fun k' => if k' = k then g else w.2 k')
abbrev zm_pi (w : zm_S) (k j : Nat) (x : Int32) : zm_S := zm_pa w k (upd (w.1 k) j x)
abbrev zm_pl (w : zm_S) (k j : Nat) (x : Int64) : zm_S := zm_qa w k (vp_updL (w.2 k) j x)
def zm_A (SH : List zm_H) (ad : Nat → Nat) (sz : Nat) : Nat → Prop := fun q => (∃ k, k < SH.length ∧ q = ad k) ∨ sz ≤ q
abbrev zm_ty (ca : FieldType → ClassId) : List (ClassId × FieldType) := [(ca .int, .int), (ca .long, .long), (ca .byte, .byte), (ca .short, .short), (ca .boolean, .boolean), (ca (.object RX5), .object RX5), (ca (.array .int), .array .int)]
abbrev zm_R (d : Nat) : Room := { frames := d + 1, cells := 0, slots := 0, locals := 70 * (d + 1) }
theorem zm_W_at {SH : List zm_H} {ca : FieldType → ClassId} {ad : Nat → Nat} {w : zm_S} {k : Nat} {h : zm_H} (e : SH[k]? = some h) : (zm_W SH ca ad w)[k]? = some (ad k, zm_E ca ad h (w.1 k) (w.2 k)) := by
  simp [zm_W, e]
theorem zm_W_back {SH : List zm_H} {ca : FieldType → ClassId} {ad : Nat → Nat} {w : zm_S} {k : Nat} {q : Nat × va_E} (e : (zm_W SH ca ad w)[k]? = some q) : k < SH.length ∧ q.1 = ad k := by
  simp only [zm_W, List.getElem?_mapIdx] at e
  cases hh : SH[k]? with
  | none => rw [hh] at e; cases e
  | some h =>
    rw [hh] at e
    have e2 := (Option.some.inj e).symm
    exact ⟨(List.getElem?_eq_some_iff.mp hh).1, by rw [e2]⟩
theorem zm_W_seti {SH : List zm_H} {ca : FieldType → ClassId} {ad : Nat → Nat} {w : zm_S} {k : Nat} {h : zm_H} (e : SH[k]? = some h) (f : Nat → Int32) : (zm_W SH ca ad w).set k (ad k, zm_E ca ad h f (w.2 k)) = zm_W SH ca ad (zm_pa w k f) := by
  apply List.ext_getElem?
  intro j
  by_cases hj : j = k
  · subst hj
    rw [zm_W_at e, List.getElem?_set_self (by have := (List.getElem?_eq_some_iff.mp e).1; simpa [zm_W] using this)]
    simp [zm_pa]
  · rw [List.getElem?_set_ne (Ne.symm hj)]
    simp [zm_W, zm_pa, hj]
theorem zm_W_setl {SH : List zm_H} {ca : FieldType → ClassId} {ad : Nat → Nat} {w : zm_S} {k : Nat} {h : zm_H} (e : SH[k]? = some h) (g : Nat → Int64) : (zm_W SH ca ad w).set k (ad k, zm_E ca ad h (w.1 k) g) = zm_W SH ca ad (zm_qa w k g) := by
  apply List.ext_getElem?
  intro j
  by_cases hj : j = k
  · subst hj
    rw [zm_W_at e, List.getElem?_set_self (by have := (List.getElem?_eq_some_iff.mp e).1; simpa [zm_W] using this)]
    simp [zm_qa]
  · rw [List.getElem?_set_ne (Ne.symm hj)]
    simp [zm_W, zm_qa, hj]
theorem zm_o_set {fs : List (Option Nat)} {ad : Nat → Nat} {f : Nat → Int32} {j : Nat} (e : fs[j]? = some none) (x : Int32) : (fs.mapIdx (zm_o ad f)).set j (.int x) = fs.mapIdx (zm_o ad (upd f j x)) := by
  apply List.ext_getElem?
  intro i
  by_cases hj : i = j
  · subst hj
    rw [List.getElem?_set_self (by have := (List.getElem?_eq_some_iff.mp e).1; simpa using this)]
    simp [e, zm_o, upd]
  · rw [List.getElem?_set_ne (Ne.symm hj)]
    simp only [List.getElem?_mapIdx]
    cases fs[i]? with
    | none => rfl
    | some o => cases o <;> simp [zm_o, upd, hj]
theorem zm_pa_fst (w : zm_S) (k : Nat) (f : Nat → Int32) (k' : Nat) : (zm_pa w k f).1 k' = if k' = k then f else w.1 k' := rfl
theorem zm_pa_snd (w : zm_S) (k : Nat) (f : Nat → Int32) : (zm_pa w k f).2 = w.2 := rfl
theorem zm_qa_fst (w : zm_S) (k : Nat) (g : Nat → Int64) : (zm_qa w k g).1 = w.1 := rfl
theorem zm_qa_snd (w : zm_S) (k : Nat) (g : Nat → Int64) (k' : Nat) : (zm_qa w k g).2 k' = if k' = k then g else w.2 k' := rfl
/-! ===== a frame, a walk, a contract ===== -/
def zm_X (M : zm_M) (D : va_G) (ca : FieldType → ClassId) (p : Program) (s : State) (m : MethodId) (args : Array Value) (meth : Method) (c : Code) : Prop :=
  p.tables.exec = Jvm.exec ∧ c.code = M.2.2.1 ∧ c.maxLocals = M.2.2.2.1 ∧ meth.sig.returnType = M.2.2.2.2 ∧ meth.locks = false ∧ s.vm.findClass M.1 = some m.cls ∧ (∀ w ∈ zm_tb, w.before args s = true) ∧ (∀ w ∈ zm_nt, va_Nw w s) ∧ va_K D vwCl (zm_ty ca) s
def zm_Y (SH : List zm_H) (D : va_G) (ca : FieldType → ClassId) (ad : Nat → Nat) (w : zm_S) (A : Nat → Prop) (H0 H : Heap) (locs : List Loc) : Prop :=
  va_P D vwCl (zm_W SH ca ad w) H ∧ va_D A (zm_W SH ca ad w) ∧ va_S A H0 H locs
def zm_B (SH : List zm_H) (D : va_G) (ca : FieldType → ClassId) (ad : Nat → Nat) (A : Nat → Prop) (u : zm_S) (t : State) : Prop :=
  va_P D vwCl (zm_W SH ca ad u) t.heap ∧ va_K D vwCl (zm_ty ca) t ∧ va_D A (zm_W SH ca ad u)
def zm_Q (SH : List zm_H) (D : va_G) (ca : FieldType → ClassId) (ad : Nat → Nat) (ret : Option FieldType) (Q : Value → zm_S → Prop) (A : Nat → Prop) : Array Value → State → Outcome → State → Prop :=
  match ret with
  | none => va_Qv (fun u => Q .null u) (zm_B SH D ca ad A) A
  | some .long => va_Ql (fun r u => Q (.long r) u) (zm_B SH D ca ad A) A
  | some _ => va_Qi (fun r u => Q (.int r) u) (zm_B SH D ca ad A) A
def zm_ls (ad : Nat → Nat) (ls : List (Nat × Value)) : List (Nat × Value) := ls.map (fun q => (q.1, zm_v ad q.2))
def zm_st (ad : Nat → Nat) (st : List Value) : List Value := st.map (zm_v ad)
/-- from here the method comes to its end, with Q of its answer and of what is then in the places -/
def zm_T (SH : List zm_H) (d : Nat) (M : zm_M) (Q : Value → zm_S → Prop) (pc : Nat) (ls : List (Nat × Value)) (st : List Value) (w : zm_S) : Prop :=
  ∀ (l : Launch) (D : va_G) (ca : FieldType → ClassId) (ad : Nat → Nat) (p : Program) (e : Env) (s : State) (m : MethodId) (args : Array Value) (below : List Frame) (meth : Method) (c : Code) (H : Heap) (locs : List Loc) (la : Array Slot),
    zm_X M D ca p s m args meth c → zm_Y SH D ca ad w (zm_A SH ad s.heap.size) s.heap H locs → lv_has la M.2.2.2.1 (zm_ls ad ls) →
    W p l e (zm_R d) s m args below meth c H locs 0 0 (MQ below (zm_Q SH D ca ad M.2.2.2.2 Q (zm_A SH ad s.heap.size)) args s 0 0 (zm_A SH ad s.heap.size)) (F0 m pc la (zm_st ad st))
def zm_C (SH : List zm_H) (d : Nat) (M : zm_M) (as : List Value) (w : zm_S) (Q : Value → zm_S → Prop) : Prop :=
  ∀ (l : Launch) (D : va_G) (ca : FieldType → ClassId) (ad : Nat → Nat) (sz : Nat), Met l M.2.1 (Cond.code M.2.1 M.2.2.1 M.2.2.2.1 M.2.2.2.2 :: zm_tb) (zm_R d)
    (va_Pc (zm_st ad as) (fun U => U.heap.size = sz ∧ va_P D vwCl (zm_W SH ca ad w) U.heap ∧ va_K D vwCl (zm_ty ca) U ∧ va_D (fun _ => True) (zm_W SH ca ad w) ∧ ∀ z ∈ zm_nt, va_Nw z U))
    (zm_Q SH D ca ad M.2.2.2.2 Q (zm_A SH ad sz)) 0 0 (zm_A SH ad sz)
theorem zm_v_cat (ad : Nat → Nat) (v : Value) : (zm_v ad v).category = v.category := by cases v <;> rfl
theorem zm_ls_args (ad : Nat → Nat) : ∀ (as : List Value) (i : Nat), zm_ls ad (lv_args i as) = lv_args i (zm_st ad as)
  | [], _ => rfl
  | v :: as, i => by
    show (i, zm_v ad v) :: zm_ls ad (lv_args _ as) = (i, zm_v ad v) :: lv_args _ (zm_st ad as)
    rw [zm_ls_args ad as, zm_v_cat]
theorem zm_sl_len (ad : Nat → Nat) : ∀ (as : List Value), (lg_sl (zm_st ad as)).length = (lg_sl as).length
  | [] => rfl
  | v :: as => by
    show ((if (zm_v ad v).category = 2 then [Slot.val (zm_v ad v), .second] else [.val (zm_v ad v)]) ++ lg_sl (zm_st ad as)).length = ((if v.category = 2 then [Slot.val v, .second] else [.val v]) ++ lg_sl as).length
    rw [zm_v_cat, List.length_append, List.length_append, zm_sl_len ad as]
    split <;> rfl
theorem zm_D_self {SH : List zm_H} {ca : FieldType → ClassId} {ad : Nat → Nat} {w : zm_S} {A : Nat → Prop} {sz : Nat} (h : va_D A (zm_W SH ca ad w)) : va_D (zm_A SH ad sz) (zm_W SH ca ad w) :=
  ⟨h.1, fun k q hk => Or.inl ⟨k, (zm_W_back hk).1, (zm_W_back hk).2⟩⟩
/-- a contract out of the walk from its entry -/
theorem zm_C.of {SH : List zm_H} {d : Nat} {M : zm_M} {as : List Value} {w : zm_S} {Q : Value → zm_S → Prop} (hpl : plainName M.2.1.cls = true) (hown : M.2.1.cls = M.1) (hlen : (lg_sl as).length ≤ M.2.2.2.1) (h : zm_T SH d M Q 0 (lv_args 0 as) [] w) : zm_C SH d M as w Q := by
  intro l D ca ad sz
  refine Met.ofW (cc := M.2.2.1) (maxL := M.2.2.2.1) (ret := M.2.2.2.2) hpl rfl ?_
  intro p e s m args below meth c s₁ B hml hv
  obtain ⟨rfl, hsz, hP, hK, hD0, hN⟩ := hv
  have hts := atoms_spec (ws := Cond.code M.2.1 M.2.2.1 M.2.2.2.1 M.2.2.2.2 :: zm_tb) B.pre
  have ho : s.vm.findClass M.1 = some m.cls := by rw [← hown]; exact findClass_of_methodNamed B.named
  subst hsz
  have hl := lv_entry (zm_st ad as) (n := M.2.2.2.1) (by rw [zm_sl_len]; exact hlen)
  rw [lg_entry_eq]
  rw [← zm_ls_args] at hl
  exact h l D ca ad p e s m (zm_st ad as).toArray below meth c s.heap [] _ ⟨B.exec, B.bytes, hml, B.returns, B.notSynchronized, ho, fun z hz => hts z (List.mem_cons_of_mem _ hz), hN, hK⟩ ⟨hP, zm_D_self hD0, va_S.rf⟩ hl
theorem zm_Q.post {SH : List zm_H} {D : va_G} {ca : FieldType → ClassId} {ad : Nat → Nat} {Q Q' : Value → zm_S → Prop} (hq : ∀ r u, Q r u → Q' r u) {A : Nat → Prop} {a : Array Value} {st : State} {o : Outcome} {t : State} : ∀ {ret : Option FieldType}, zm_Q SH D ca ad ret Q A a st o t → zm_Q SH D ca ad ret Q' A a st o t
  | none, hz => by
    obtain ⟨⟨u, h1, h2, h3⟩, h4⟩ := hz
    exact ⟨⟨u, h1, hq _ _ h2, h3⟩, h4⟩
  | some .long, hz => by
    obtain ⟨⟨r, u, h1, h2, h3⟩, h4⟩ := hz
    exact ⟨⟨r, u, h1, hq _ _ h2, h3⟩, h4⟩
  | some .int, hz => by
    obtain ⟨⟨r, u, h1, h2, h3⟩, h4⟩ := hz
    exact ⟨⟨r, u, h1, hq _ _ h2, h3⟩, h4⟩
  | some .boolean, hz => by
    obtain ⟨⟨r, u, h1, h2, h3⟩, h4⟩ := hz
    exact ⟨⟨r, u, h1, hq _ _ h2, h3⟩, h4⟩
  | some .byte, hz => by
    obtain ⟨⟨r, u, h1, h2, h3⟩, h4⟩ := hz
    exact ⟨⟨r, u, h1, hq _ _ h2, h3⟩, h4⟩
  | some .char, hz => by
    obtain ⟨⟨r, u, h1, h2, h3⟩, h4⟩ := hz
    exact ⟨⟨r, u, h1, hq _ _ h2, h3⟩, h4⟩
  | some .short, hz => by
    obtain ⟨⟨r, u, h1, h2, h3⟩, h4⟩ := hz
    exact ⟨⟨r, u, h1, hq _ _ h2, h3⟩, h4⟩
  | some .float, hz => by
    obtain ⟨⟨r, u, h1, h2, h3⟩, h4⟩ := hz
    exact ⟨⟨r, u, h1, hq _ _ h2, h3⟩, h4⟩
  | some .double, hz => by
    obtain ⟨⟨r, u, h1, h2, h3⟩, h4⟩ := hz
    exact ⟨⟨r, u, h1, hq _ _ h2, h3⟩, h4⟩
  | some (.object _), hz => by
    obtain ⟨⟨r, u, h1, h2, h3⟩, h4⟩ := hz
    exact ⟨⟨r, u, h1, hq _ _ h2, h3⟩, h4⟩
  | some (.array _), hz => by
    obtain ⟨⟨r, u, h1, h2, h3⟩, h4⟩ := hz
    exact ⟨⟨r, u, h1, hq _ _ h2, h3⟩, h4⟩
theorem zm_C.post {SH : List zm_H} {d : Nat} {M : zm_M} {as : List Value} {w : zm_S} {Q Q' : Value → zm_S → Prop} (hq : ∀ r u, Q r u → Q' r u) (h : zm_C SH d M as w Q) : zm_C SH d M as w Q' := by
  intro l D ca ad sz
  have h0 := h l D ca ad sz
  intro p e ha hc hk s m args below hf hpre hP hK
  obtain ⟨t, o, h1, h2, h3, h4, h5⟩ := h0 p e ha hc hk s m args below hf hpre hP hK
  exact ⟨t, o, h1, h2, h3, zm_Q.post hq h4, h5⟩
end
section
section ZM
variable {SH : List zm_H} {d : Nat} {M : zm_M} {Q : Value → zm_S → Prop} {pc : Nat} {ls : List (Nat × Value)} {st : List Value} {w : zm_S}
theorem zm_sub (ks : List Nat) {ls' : List (Nat × Value)} (h : lv_pick ls ks = ls') (k : zm_T SH d M Q pc ls' st w) : zm_T SH d M Q pc ls st w := by
  intro l D ca ad p e s m args below meth c H locs la hX hY hl
  refine k l D ca ad p e s m args below meth c H locs la hX hY (lv_sub hl ks ?_)
  rw [← h]
  simp only [lv_pick, zm_ls, List.map_filterMap, List.getElem?_map]
theorem zm_at {ad : Nat → Nat} {la : Array Slot} {n i j : Nat} {v : Value} (hl : lv_has la n (zm_ls ad ls)) (h : ls[j]? = some (i, v)) : la[i]? = some (.val (zm_v ad v)) := lv_at hl j (by simp [zm_ls, h])
theorem zm_iload {i : Nat} {x : Int32} (j : Nat) (hdg : decode M.2.2.1 pc = .ok (.iload i, 2)) (h : ls[j]? = some (i, .int x)) (k : zm_T SH d M Q (pc + 2) ls (.int x :: st) w) : zm_T SH d M Q pc ls st w := by
  intro l D ca ad p e s m args below meth c H locs la hX hY hl
  exact lv_iload hX.1 hX.2.1 hdg (zm_at hl h) (k l D ca ad p e s m args below meth c H locs la hX hY hl)
theorem zm_iload_n {k0 : Fin 4} {i : Nat} {x : Int32} (j : Nat) (hdg : decode M.2.2.1 pc = .ok (.iload_n k0, 1)) (hi : (k0 : Nat) = i) (h : ls[j]? = some (i, .int x)) (k : zm_T SH d M Q (pc + 1) ls (.int x :: st) w) : zm_T SH d M Q pc ls st w := by
  intro l D ca ad p e s m args below meth c H locs la hX hY hl
  exact lv_iload_n hX.1 hX.2.1 hdg hi (zm_at hl h) (k l D ca ad p e s m args below meth c H locs la hX hY hl)
theorem zm_lload {i : Nat} {x : Int64} (j : Nat) (hdg : decode M.2.2.1 pc = .ok (.lload i, 2)) (h : ls[j]? = some (i, .long x)) (k : zm_T SH d M Q (pc + 2) ls (.long x :: st) w) : zm_T SH d M Q pc ls st w := by
  intro l D ca ad p e s m args below meth c H locs la hX hY hl
  exact lv_lload hX.1 hX.2.1 hdg (zm_at hl h) (k l D ca ad p e s m args below meth c H locs la hX hY hl)
theorem zm_lload_n {k0 : Fin 4} {i : Nat} {x : Int64} (j : Nat) (hdg : decode M.2.2.1 pc = .ok (.lload_n k0, 1)) (hi : (k0 : Nat) = i) (h : ls[j]? = some (i, .long x)) (k : zm_T SH d M Q (pc + 1) ls (.long x :: st) w) : zm_T SH d M Q pc ls st w := by
  intro l D ca ad p e s m args below meth c H locs la hX hY hl
  exact lv_lload_n hX.1 hX.2.1 hdg hi (zm_at hl h) (k l D ca ad p e s m args below meth c H locs la hX hY hl)
theorem zm_aload {i : Nat} {x : Nat} (j : Nat) (hdg : decode M.2.2.1 pc = .ok (.aload i, 2)) (h : ls[j]? = some (i, .ref x)) (k : zm_T SH d M Q (pc + 2) ls (.ref x :: st) w) : zm_T SH d M Q pc ls st w := by
  intro l D ca ad p e s m args below meth c H locs la hX hY hl
  exact lv_aload hX.1 hX.2.1 hdg (zm_at hl h) (k l D ca ad p e s m args below meth c H locs la hX hY hl)
theorem zm_aload_n {k0 : Fin 4} {i : Nat} {x : Nat} (j : Nat) (hdg : decode M.2.2.1 pc = .ok (.aload_n k0, 1)) (hi : (k0 : Nat) = i) (h : ls[j]? = some (i, .ref x)) (k : zm_T SH d M Q (pc + 1) ls (.ref x :: st) w) : zm_T SH d M Q pc ls st w := by
  intro l D ca ad p e s m args below meth c H locs la hX hY hl
  exact lv_aload_n hX.1 hX.2.1 hdg hi (zm_at hl h) (k l D ca ad p e s m args below meth c H locs la hX hY hl)
theorem zm_iconst {n : Int} {v : Int32} (hdg : decode M.2.2.1 pc = .ok (.iconst n, 1)) (hv : Int32.ofInt n = v) (k : zm_T SH d M Q (pc + 1) ls (.int v :: st) w) : zm_T SH d M Q pc ls st w := by
  intro l D ca ad p e s m args below meth c H locs la hX hY hl
  exact lv_iconst hX.1 hX.2.1 hdg hv (k l D ca ad p e s m args below meth c H locs la hX hY hl)
theorem zm_bipush {n : Int} {v : Int32} (hdg : decode M.2.2.1 pc = .ok (.bipush n, 2)) (hv : (Int8.ofInt n).toInt32 = v) (k : zm_T SH d M Q (pc + 2) ls (.int v :: st) w) : zm_T SH d M Q pc ls st w := by
  intro l D ca ad p e s m args below meth c H locs la hX hY hl
  exact lv_bipush hX.1 hX.2.1 hdg hv (k l D ca ad p e s m args below meth c H locs la hX hY hl)
theorem zm_sipush {n : Int} {v : Int32} (hdg : decode M.2.2.1 pc = .ok (.sipush n, 3)) (hv : (Int16.ofInt n).toInt32 = v) (k : zm_T SH d M Q (pc + 3) ls (.int v :: st) w) : zm_T SH d M Q pc ls st w := by
  intro l D ca ad p e s m args below meth c H locs la hX hY hl
  exact lv_sipush hX.1 hX.2.1 hdg hv (k l D ca ad p e s m args below meth c H locs la hX hY hl)
theorem zm_lconst {n : Fin 2} {v : Int64} (hdg : decode M.2.2.1 pc = .ok (.lconst n, 1)) (hv : Int64.ofNat (n : Nat) = v) (k : zm_T SH d M Q (pc + 1) ls (.long v :: st) w) : zm_T SH d M Q pc ls st w := by
  intro l D ca ad p e s m args below meth c H locs la hX hY hl
  exact lv_lconst hX.1 hX.2.1 hdg hv (k l D ca ad p e s m args below meth c H locs la hX hY hl)
theorem zm_ldc {i : Nat} {v : Int32} (hdg : decode M.2.2.1 pc = .ok (.ldc i, 2)) (hc : Cond.constant M.1 i v ∈ zm_tb) (k : zm_T SH d M Q (pc + 2) ls (.int v :: st) w) : zm_T SH d M Q pc ls st w := by
  intro l D ca ad p e s m args below meth c H locs la hX hY hl
  exact lv_ldc hX.1 hX.2.1 hX.2.2.2.2.2.1 (hX.2.2.2.2.2.2.1 _ hc) hdg (k l D ca ad p e s m args below meth c H locs la hX hY hl)
theorem zm_ldc_w {i : Nat} {v : Int32} (hdg : decode M.2.2.1 pc = .ok (.ldc_w i, 3)) (hc : Cond.constant M.1 i v ∈ zm_tb) (k : zm_T SH d M Q (pc + 3) ls (.int v :: st) w) : zm_T SH d M Q pc ls st w := by
  intro l D ca ad p e s m args below meth c H locs la hX hY hl
  exact lv_ldcw hX.1 hX.2.1 hX.2.2.2.2.2.1 (hX.2.2.2.2.2.2.1 _ hc) hdg (k l D ca ad p e s m args below meth c H locs la hX hY hl)
theorem zm_ldc2_w {i : Nat} {v : Int64} (hdg : decode M.2.2.1 pc = .ok (.ldc2_w i, 3)) (hc : Cond.constantLong M.1 i v ∈ zm_tb) (k : zm_T SH d M Q (pc + 3) ls (.long v :: st) w) : zm_T SH d M Q pc ls st w := by
  intro l D ca ad p e s m args below meth c H locs la hX hY hl
  exact lv_ldc2 hX.1 hX.2.1 hX.2.2.2.2.2.1 (hX.2.2.2.2.2.2.1 _ hc) hdg (k l D ca ad p e s m args below meth c H locs la hX hY hl)
theorem zm_iadd {x y : Int32} (hdg : decode M.2.2.1 pc = .ok (.iadd, 1)) (k : zm_T SH d M Q (pc + 1) ls (.int (x + y) :: st) w) : zm_T SH d M Q pc ls (.int y :: .int x :: st) w := by
  intro l D ca ad p e s m args below meth c H locs la hX hY hl
  exact lv_iadd hX.1 hX.2.1 hdg (k l D ca ad p e s m args below meth c H locs la hX hY hl)
theorem zm_isub {x y : Int32} (hdg : decode M.2.2.1 pc = .ok (.isub, 1)) (k : zm_T SH d M Q (pc + 1) ls (.int (x - y) :: st) w) : zm_T SH d M Q pc ls (.int y :: .int x :: st) w := by
  intro l D ca ad p e s m args below meth c H locs la hX hY hl
  exact lv_isub hX.1 hX.2.1 hdg (k l D ca ad p e s m args below meth c H locs la hX hY hl)
theorem zm_imul {x y : Int32} (hdg : decode M.2.2.1 pc = .ok (.imul, 1)) (k : zm_T SH d M Q (pc + 1) ls (.int (x * y) :: st) w) : zm_T SH d M Q pc ls (.int y :: .int x :: st) w := by
  intro l D ca ad p e s m args below meth c H locs la hX hY hl
  exact lv_imul hX.1 hX.2.1 hdg (k l D ca ad p e s m args below meth c H locs la hX hY hl)
theorem zm_iand {x y : Int32} (hdg : decode M.2.2.1 pc = .ok (.iand, 1)) (k : zm_T SH d M Q (pc + 1) ls (.int (x &&& y) :: st) w) : zm_T SH d M Q pc ls (.int y :: .int x :: st) w := by
  intro l D ca ad p e s m args below meth c H locs la hX hY hl
  exact lv_iand hX.1 hX.2.1 hdg (k l D ca ad p e s m args below meth c H locs la hX hY hl)
theorem zm_ior {x y : Int32} (hdg : decode M.2.2.1 pc = .ok (.ior, 1)) (k : zm_T SH d M Q (pc + 1) ls (.int (x ||| y) :: st) w) : zm_T SH d M Q pc ls (.int y :: .int x :: st) w := by
  intro l D ca ad p e s m args below meth c H locs la hX hY hl
  exact lv_ior hX.1 hX.2.1 hdg (k l D ca ad p e s m args below meth c H locs la hX hY hl)
theorem zm_ixor {x y : Int32} (hdg : decode M.2.2.1 pc = .ok (.ixor, 1)) (k : zm_T SH d M Q (pc + 1) ls (.int (x ^^^ y) :: st) w) : zm_T SH d M Q pc ls (.int y :: .int x :: st) w := by
  intro l D ca ad p e s m args below meth c H locs la hX hY hl
  exact lv_ixor hX.1 hX.2.1 hdg (k l D ca ad p e s m args below meth c H locs la hX hY hl)
theorem zm_ishl {x y : Int32} (hdg : decode M.2.2.1 pc = .ok (.ishl, 1)) (k : zm_T SH d M Q (pc + 1) ls (.int (x <<< (y &&& 31)) :: st) w) : zm_T SH d M Q pc ls (.int y :: .int x :: st) w := by
  intro l D ca ad p e s m args below meth c H locs la hX hY hl
  exact lv_ishl hX.1 hX.2.1 hdg (k l D ca ad p e s m args below meth c H locs la hX hY hl)
theorem zm_ishr {x y : Int32} (hdg : decode M.2.2.1 pc = .ok (.ishr, 1)) (k : zm_T SH d M Q (pc + 1) ls (.int (x >>> (y &&& 31)) :: st) w) : zm_T SH d M Q pc ls (.int y :: .int x :: st) w := by
  intro l D ca ad p e s m args below meth c H locs la hX hY hl
  exact lv_ishr hX.1 hX.2.1 hdg (k l D ca ad p e s m args below meth c H locs la hX hY hl)
theorem zm_ladd {x y : Int64} (hdg : decode M.2.2.1 pc = .ok (.ladd, 1)) (k : zm_T SH d M Q (pc + 1) ls (.long (x + y) :: st) w) : zm_T SH d M Q pc ls (.long y :: .long x :: st) w := by
  intro l D ca ad p e s m args below meth c H locs la hX hY hl
  exact lv_ladd hX.1 hX.2.1 hdg (k l D ca ad p e s m args below meth c H locs la hX hY hl)
theorem zm_lsub {x y : Int64} (hdg : decode M.2.2.1 pc = .ok (.lsub, 1)) (k : zm_T SH d M Q (pc + 1) ls (.long (x - y) :: st) w) : zm_T SH d M Q pc ls (.long y :: .long x :: st) w := by
  intro l D ca ad p e s m args below meth c H locs la hX hY hl
  exact lv_lsub hX.1 hX.2.1 hdg (k l D ca ad p e s m args below meth c H locs la hX hY hl)
theorem zm_lmul {x y : Int64} (hdg : decode M.2.2.1 pc = .ok (.lmul, 1)) (k : zm_T SH d M Q (pc + 1) ls (.long (x * y) :: st) w) : zm_T SH d M Q pc ls (.long y :: .long x :: st) w := by
  intro l D ca ad p e s m args below meth c H locs la hX hY hl
  exact lv_lmul hX.1 hX.2.1 hdg (k l D ca ad p e s m args below meth c H locs la hX hY hl)
theorem zm_land {x y : Int64} (hdg : decode M.2.2.1 pc = .ok (.land, 1)) (k : zm_T SH d M Q (pc + 1) ls (.long (x &&& y) :: st) w) : zm_T SH d M Q pc ls (.long y :: .long x :: st) w := by
  intro l D ca ad p e s m args below meth c H locs la hX hY hl
  exact lv_land hX.1 hX.2.1 hdg (k l D ca ad p e s m args below meth c H locs la hX hY hl)
theorem zm_lor {x y : Int64} (hdg : decode M.2.2.1 pc = .ok (.lor, 1)) (k : zm_T SH d M Q (pc + 1) ls (.long (x ||| y) :: st) w) : zm_T SH d M Q pc ls (.long y :: .long x :: st) w := by
  intro l D ca ad p e s m args below meth c H locs la hX hY hl
  exact lv_lor hX.1 hX.2.1 hdg (k l D ca ad p e s m args below meth c H locs la hX hY hl)
theorem zm_lxor {x y : Int64} (hdg : decode M.2.2.1 pc = .ok (.lxor, 1)) (k : zm_T SH d M Q (pc + 1) ls (.long (x ^^^ y) :: st) w) : zm_T SH d M Q pc ls (.long y :: .long x :: st) w := by
  intro l D ca ad p e s m args below meth c H locs la hX hY hl
  exact lv_lxor hX.1 hX.2.1 hdg (k l D ca ad p e s m args below meth c H locs la hX hY hl)
theorem zm_idiv {x y : Int32} (hdg : decode M.2.2.1 pc = .ok (.idiv, 1)) (hne : ¬ y = 0) (k : zm_T SH d M Q (pc + 1) ls (.int (x / y) :: st) w) : zm_T SH d M Q pc ls (.int y :: .int x :: st) w := by
  intro l D ca ad p e s m args below meth c H locs la hX hY hl
  exact lv_idiv hX.1 hX.2.1 hdg hne (k l D ca ad p e s m args below meth c H locs la hX hY hl)
theorem zm_irem {x y : Int32} (hdg : decode M.2.2.1 pc = .ok (.irem, 1)) (hne : ¬ y = 0) (k : zm_T SH d M Q (pc + 1) ls (.int (x - x / y * y) :: st) w) : zm_T SH d M Q pc ls (.int y :: .int x :: st) w := by
  intro l D ca ad p e s m args below meth c H locs la hX hY hl
  exact lv_irem hX.1 hX.2.1 hdg hne (k l D ca ad p e s m args below meth c H locs la hX hY hl)
theorem zm_ldiv {x y : Int64} (hdg : decode M.2.2.1 pc = .ok (.ldiv, 1)) (hne : ¬ y = 0) (k : zm_T SH d M Q (pc + 1) ls (.long (x / y) :: st) w) : zm_T SH d M Q pc ls (.long y :: .long x :: st) w := by
  intro l D ca ad p e s m args below meth c H locs la hX hY hl
  exact lv_ldiv hX.1 hX.2.1 hdg hne (k l D ca ad p e s m args below meth c H locs la hX hY hl)
theorem zm_lrem {x y : Int64} (hdg : decode M.2.2.1 pc = .ok (.lrem, 1)) (hne : ¬ y = 0) (k : zm_T SH d M Q (pc + 1) ls (.long (x - x / y * y) :: st) w) : zm_T SH d M Q pc ls (.long y :: .long x :: st) w := by
  intro l D ca ad p e s m args below meth c H locs la hX hY hl
  exact lv_lrem hX.1 hX.2.1 hdg hne (k l D ca ad p e s m args below meth c H locs la hX hY hl)
theorem zm_iushr {x y : Int32} (hdg : decode M.2.2.1 pc = .ok (.iushr, 1)) (k : zm_T SH d M Q (pc + 1) ls (.int ((x.toUInt32 >>> (y.toUInt32 &&& Int32.toUInt32 31)).toInt32) :: st) w) : zm_T SH d M Q pc ls (.int y :: .int x :: st) w := by
  intro l D ca ad p e s m args below meth c H locs la hX hY hl
  exact lv_iushr hX.1 hX.2.1 hdg rfl (k l D ca ad p e s m args below meth c H locs la hX hY hl)
theorem zm_lushr {x : Int64} {y : Int32} (hdg : decode M.2.2.1 pc = .ok (.lushr, 1)) (k : zm_T SH d M Q (pc + 1) ls (.long ((x.toUInt64 >>> (y.toInt64.toUInt64 &&& Int64.toUInt64 63)).toInt64) :: st) w) : zm_T SH d M Q pc ls (.int y :: .long x :: st) w := by
  intro l D ca ad p e s m args below meth c H locs la hX hY hl
  exact lv_lushr hX.1 hX.2.1 hdg rfl (k l D ca ad p e s m args below meth c H locs la hX hY hl)
theorem zm_lshl {x : Int64} {y : Int32} (hdg : decode M.2.2.1 pc = .ok (.lshl, 1)) (k : zm_T SH d M Q (pc + 1) ls (.long (x <<< (y.toInt64 &&& 63)) :: st) w) : zm_T SH d M Q pc ls (.int y :: .long x :: st) w := by
  intro l D ca ad p e s m args below meth c H locs la hX hY hl
  exact lv_lshl hX.1 hX.2.1 hdg rfl (k l D ca ad p e s m args below meth c H locs la hX hY hl)
theorem zm_lcmp {x y : Int64} (hdg : decode M.2.2.1 pc = .ok (.lcmp, 1)) (k : zm_T SH d M Q (pc + 1) ls (.int (lg_cmp x y) :: st) w) : zm_T SH d M Q pc ls (.long y :: .long x :: st) w := by
  intro l D ca ad p e s m args below meth c H locs la hX hY hl
  exact W.lcmp hX.1 hX.2.1 hdg (k l D ca ad p e s m args below meth c H locs la hX hY hl)
theorem zm_i2l {x : Int32} (hdg : decode M.2.2.1 pc = .ok (.i2l, 1)) (k : zm_T SH d M Q (pc + 1) ls (.long (x.toInt64) :: st) w) : zm_T SH d M Q pc ls (.int x :: st) w := by
  intro l D ca ad p e s m args below meth c H locs la hX hY hl
  exact lv_i2l hX.1 hX.2.1 hdg rfl (k l D ca ad p e s m args below meth c H locs la hX hY hl)
theorem zm_l2i {x : Int64} (hdg : decode M.2.2.1 pc = .ok (.l2i, 1)) (k : zm_T SH d M Q (pc + 1) ls (.int (x.toInt32) :: st) w) : zm_T SH d M Q pc ls (.long x :: st) w := by
  intro l D ca ad p e s m args below meth c H locs la hX hY hl
  exact lv_l2i hX.1 hX.2.1 hdg rfl (k l D ca ad p e s m args below meth c H locs la hX hY hl)
theorem zm_i2b {x : Int32} (hdg : decode M.2.2.1 pc = .ok (.i2b, 1)) (k : zm_T SH d M Q (pc + 1) ls (.int (x.toInt8.toInt32) :: st) w) : zm_T SH d M Q pc ls (.int x :: st) w := by
  intro l D ca ad p e s m args below meth c H locs la hX hY hl
  exact lv_i2b hX.1 hX.2.1 hdg rfl (k l D ca ad p e s m args below meth c H locs la hX hY hl)
theorem zm_i2s {x : Int32} (hdg : decode M.2.2.1 pc = .ok (.i2s, 1)) (k : zm_T SH d M Q (pc + 1) ls (.int (x.toInt16.toInt32) :: st) w) : zm_T SH d M Q pc ls (.int x :: st) w := by
  intro l D ca ad p e s m args below meth c H locs la hX hY hl
  exact lv_i2s hX.1 hX.2.1 hdg rfl (k l D ca ad p e s m args below meth c H locs la hX hY hl)
theorem zm_dup {v : Value} (hdg : decode M.2.2.1 pc = .ok (.dup, 1)) (hv : v.category = 1) (k : zm_T SH d M Q (pc + 1) ls (v :: v :: st) w) : zm_T SH d M Q pc ls (v :: st) w := by
  intro l D ca ad p e s m args below meth c H locs la hX hY hl
  exact lv_dup hX.1 hX.2.1 hdg (by rw [zm_v_cat]; exact hv) (k l D ca ad p e s m args below meth c H locs la hX hY hl)
theorem zm_pop {v : Value} (hdg : decode M.2.2.1 pc = .ok (.pop, 1)) (hv : v.category = 1) (k : zm_T SH d M Q (pc + 1) ls st w) : zm_T SH d M Q pc ls (v :: st) w := by
  intro l D ca ad p e s m args below meth c H locs la hX hY hl
  exact lv_pop hX.1 hX.2.1 hdg (va := zm_v ad v) (by rw [zm_v_cat]; exact hv) (k l D ca ad p e s m args below meth c H locs la hX hY hl)
theorem zm_dup2 {v u : Value} (hdg : decode M.2.2.1 pc = .ok (.dup2, 1)) (hv : v.category = 1) (hu : u.category = 1) (k : zm_T SH d M Q (pc + 1) ls (v :: u :: v :: u :: st) w) : zm_T SH d M Q pc ls (v :: u :: st) w := by
  intro l D ca ad p e s m args below meth c H locs la hX hY hl
  exact lv_dup2_11 hX.1 hX.2.1 hdg (by rw [zm_v_cat]; exact hv) (by rw [zm_v_cat]; exact hu) (k l D ca ad p e s m args below meth c H locs la hX hY hl)
theorem zm_flt1 (ad : Nat → Nat) (i : Nat) (ls : List (Nat × Value)) : (zm_ls ad ls).filter (fun q => !(q.1 == i) && !(q.1 + 1 == i && q.2.category == 2)) = zm_ls ad (ls.filter (fun q => !(q.1 == i) && !(q.1 + 1 == i && q.2.category == 2))) := by
  simp only [zm_ls, List.filter_map]
  congr 2
  funext q
  simp [zm_v_cat]
theorem zm_flt2 (ad : Nat → Nat) (i : Nat) (ls : List (Nat × Value)) : (zm_ls ad ls).filter (fun q => !(q.1 == i) && (!(q.1 == i + 1) && !(q.1 + 1 == i && q.2.category == 2))) = zm_ls ad (ls.filter (fun q => !(q.1 == i) && (!(q.1 == i + 1) && !(q.1 + 1 == i && q.2.category == 2)))) := by
  simp only [zm_ls, List.filter_map]
  congr 2
  funext q
  simp [zm_v_cat]
theorem zm_istore {i : Nat} {x : Int32} {ls' : List (Nat × Value)} (hdg : decode M.2.2.1 pc = .ok (.istore i, 2)) (hn : i < M.2.2.2.1) (hf : (i, Value.int x) :: ls.filter (fun q => !(q.1 == i) && !(q.1 + 1 == i && q.2.category == 2)) = ls') (k : zm_T SH d M Q (pc + 2) ls' st w) : zm_T SH d M Q pc ls (.int x :: st) w := by
  intro l D ca ad p e s m args below meth c H locs la hX hY hl
  exact lv_istore hX.1 hX.2.1 hdg hl hn (by rw [zm_flt1]) (fun la' hl' => k l D ca ad p e s m args below meth c H locs la' hX hY (by rw [← hf]; exact hl'))
theorem zm_istore_n {k0 : Fin 4} {i : Nat} {x : Int32} {ls' : List (Nat × Value)} (hdg : decode M.2.2.1 pc = .ok (.istore_n k0, 1)) (hi : (k0 : Nat) = i) (hn : i < M.2.2.2.1) (hf : (i, Value.int x) :: ls.filter (fun q => !(q.1 == i) && !(q.1 + 1 == i && q.2.category == 2)) = ls') (k : zm_T SH d M Q (pc + 1) ls' st w) : zm_T SH d M Q pc ls (.int x :: st) w := by
  intro l D ca ad p e s m args below meth c H locs la hX hY hl
  exact lv_istore_n hX.1 hX.2.1 hdg hi hl hn (by rw [zm_flt1]) (fun la' hl' => k l D ca ad p e s m args below meth c H locs la' hX hY (by rw [← hf]; exact hl'))
theorem zm_astore {i : Nat} {x : Nat} {ls' : List (Nat × Value)} (hdg : decode M.2.2.1 pc = .ok (.astore i, 2)) (hn : i < M.2.2.2.1) (hf : (i, Value.ref x) :: ls.filter (fun q => !(q.1 == i) && !(q.1 + 1 == i && q.2.category == 2)) = ls') (k : zm_T SH d M Q (pc + 2) ls' st w) : zm_T SH d M Q pc ls (.ref x :: st) w := by
  intro l D ca ad p e s m args below meth c H locs la hX hY hl
  exact lv_astore hX.1 hX.2.1 hdg hl hn (by rw [zm_flt1]) (fun la' hl' => k l D ca ad p e s m args below meth c H locs la' hX hY (by rw [← hf]; exact hl'))
theorem zm_astore_n {k0 : Fin 4} {i : Nat} {x : Nat} {ls' : List (Nat × Value)} (hdg : decode M.2.2.1 pc = .ok (.astore_n k0, 1)) (hi : (k0 : Nat) = i) (hn : i < M.2.2.2.1) (hf : (i, Value.ref x) :: ls.filter (fun q => !(q.1 == i) && !(q.1 + 1 == i && q.2.category == 2)) = ls') (k : zm_T SH d M Q (pc + 1) ls' st w) : zm_T SH d M Q pc ls (.ref x :: st) w := by
  intro l D ca ad p e s m args below meth c H locs la hX hY hl
  exact lv_astore_n hX.1 hX.2.1 hdg hi hl hn (by rw [zm_flt1]) (fun la' hl' => k l D ca ad p e s m args below meth c H locs la' hX hY (by rw [← hf]; exact hl'))
theorem zm_lstore {i : Nat} {x : Int64} {ls' : List (Nat × Value)} (hdg : decode M.2.2.1 pc = .ok (.lstore i, 2)) (hn : i + 1 < M.2.2.2.1) (hf : (i, Value.long x) :: ls.filter (fun q => !(q.1 == i) && (!(q.1 == i + 1) && !(q.1 + 1 == i && q.2.category == 2))) = ls') (k : zm_T SH d M Q (pc + 2) ls' st w) : zm_T SH d M Q pc ls (.long x :: st) w := by
  intro l D ca ad p e s m args below meth c H locs la hX hY hl
  exact lv_lstore hX.1 hX.2.1 hdg hl hn (by rw [zm_flt2]) (fun la' hl' => k l D ca ad p e s m args below meth c H locs la' hX hY (by rw [← hf]; exact hl'))
theorem zm_lstore_n {k0 : Fin 4} {i : Nat} {x : Int64} {ls' : List (Nat × Value)} (hdg : decode M.2.2.1 pc = .ok (.lstore_n k0, 1)) (hi : (k0 : Nat) = i) (hn : i + 1 < M.2.2.2.1) (hf : (i, Value.long x) :: ls.filter (fun q => !(q.1 == i) && (!(q.1 == i + 1) && !(q.1 + 1 == i && q.2.category == 2))) = ls') (k : zm_T SH d M Q (pc + 1) ls' st w) : zm_T SH d M Q pc ls (.long x :: st) w := by
  intro l D ca ad p e s m args below meth c H locs la hX hY hl
  exact lv_lstore_n hX.1 hX.2.1 hdg hi hl hn (by rw [zm_flt2]) (fun la' hl' => k l D ca ad p e s m args below meth c H locs la' hX hY (by rw [← hf]; exact hl'))
theorem zm_iinc {i : Nat} {n : Int} {x v : Int32} {ls' : List (Nat × Value)} (j : Nat) (hdg : decode M.2.2.1 pc = .ok (.iinc i n, 3)) (h : ls[j]? = some (i, .int x)) (hv : x + Int32.ofInt n = v) (hn : i < M.2.2.2.1) (hf : (i, Value.int v) :: ls.filter (fun q => !(q.1 == i) && !(q.1 + 1 == i && q.2.category == 2)) = ls') (k : zm_T SH d M Q (pc + 3) ls' st w) : zm_T SH d M Q pc ls st w := by
  intro l D ca ad p e s m args below meth c H locs la hX hY hl
  exact lv_iinc hX.1 hX.2.1 hdg hl (k := j) (by simp only [zm_ls, List.getElem?_map, h]; rfl) hv hn (by rw [zm_flt1]) (fun la' hl' => k l D ca ad p e s m args below meth c H locs la' hX hY (by rw [← hf]; exact hl'))
theorem zm_goto {off : Int} (tgt : Nat) (hdg : decode M.2.2.1 pc = .ok (.goto off, 3)) (ht : (pc : Int) + off = (tgt : Int)) (k : zm_T SH d M Q tgt ls st w) : zm_T SH d M Q pc ls st w := by
  intro l D ca ad p e s m args below meth c H locs la hX hY hl
  exact lv_goto hX.1 hX.2.1 hdg ht (k l D ca ad p e s m args below meth c H locs la hX hY hl)
theorem zm_if_eq {x : Int32} {off : Int} (tgt : Nat) (hdg : decode M.2.2.1 pc = .ok (.ifCond .eq off, 3)) (ht : (pc : Int) + off = (tgt : Int)) (kt : x = 0 → zm_T SH d M Q tgt ls st w) (kf : ¬ x = 0 → zm_T SH d M Q (pc + 3) ls st w) : zm_T SH d M Q pc ls (.int x :: st) w := by
  intro l D ca ad p e s m args below meth c H locs la hX hY hl
  exact lv_if_eq hX.1 hX.2.1 hdg ht (fun h => kt h l D ca ad p e s m args below meth c H locs la hX hY hl) (fun h => kf h l D ca ad p e s m args below meth c H locs la hX hY hl)
theorem zm_icmp_eq {x y : Int32} {off : Int} (tgt : Nat) (hdg : decode M.2.2.1 pc = .ok (.if_icmp .eq off, 3)) (ht : (pc : Int) + off = (tgt : Int)) (kt : x = y → zm_T SH d M Q tgt ls st w) (kf : ¬ x = y → zm_T SH d M Q (pc + 3) ls st w) : zm_T SH d M Q pc ls (.int y :: .int x :: st) w := by
  intro l D ca ad p e s m args below meth c H locs la hX hY hl
  exact lv_icmp_eq hX.1 hX.2.1 hdg ht (fun h => kt h l D ca ad p e s m args below meth c H locs la hX hY hl) (fun h => kf h l D ca ad p e s m args below meth c H locs la hX hY hl)
theorem zm_if_ne {x : Int32} {off : Int} (tgt : Nat) (hdg : decode M.2.2.1 pc = .ok (.ifCond .ne off, 3)) (ht : (pc : Int) + off = (tgt : Int)) (kt : ¬ x = 0 → zm_T SH d M Q tgt ls st w) (kf : x = 0 → zm_T SH d M Q (pc + 3) ls st w) : zm_T SH d M Q pc ls (.int x :: st) w := by
  intro l D ca ad p e s m args below meth c H locs la hX hY hl
  exact lv_if_ne hX.1 hX.2.1 hdg ht (fun h => kt h l D ca ad p e s m args below meth c H locs la hX hY hl) (fun h => kf h l D ca ad p e s m args below meth c H locs la hX hY hl)
theorem zm_icmp_ne {x y : Int32} {off : Int} (tgt : Nat) (hdg : decode M.2.2.1 pc = .ok (.if_icmp .ne off, 3)) (ht : (pc : Int) + off = (tgt : Int)) (kt : ¬ x = y → zm_T SH d M Q tgt ls st w) (kf : x = y → zm_T SH d M Q (pc + 3) ls st w) : zm_T SH d M Q pc ls (.int y :: .int x :: st) w := by
  intro l D ca ad p e s m args below meth c H locs la hX hY hl
  exact lv_icmp_ne hX.1 hX.2.1 hdg ht (fun h => kt h l D ca ad p e s m args below meth c H locs la hX hY hl) (fun h => kf h l D ca ad p e s m args below meth c H locs la hX hY hl)
theorem zm_if_lt {x : Int32} {off : Int} (tgt : Nat) (hdg : decode M.2.2.1 pc = .ok (.ifCond .lt off, 3)) (ht : (pc : Int) + off = (tgt : Int)) (kt : x < 0 → zm_T SH d M Q tgt ls st w) (kf : ¬ x < 0 → zm_T SH d M Q (pc + 3) ls st w) : zm_T SH d M Q pc ls (.int x :: st) w := by
  intro l D ca ad p e s m args below meth c H locs la hX hY hl
  exact lv_if_lt hX.1 hX.2.1 hdg ht (fun h => kt h l D ca ad p e s m args below meth c H locs la hX hY hl) (fun h => kf h l D ca ad p e s m args below meth c H locs la hX hY hl)
theorem zm_icmp_lt {x y : Int32} {off : Int} (tgt : Nat) (hdg : decode M.2.2.1 pc = .ok (.if_icmp .lt off, 3)) (ht : (pc : Int) + off = (tgt : Int)) (kt : x < y → zm_T SH d M Q tgt ls st w) (kf : ¬ x < y → zm_T SH d M Q (pc + 3) ls st w) : zm_T SH d M Q pc ls (.int y :: .int x :: st) w := by
  intro l D ca ad p e s m args below meth c H locs la hX hY hl
  exact lv_icmp_lt hX.1 hX.2.1 hdg ht (fun h => kt h l D ca ad p e s m args below meth c H locs la hX hY hl) (fun h => kf h l D ca ad p e s m args below meth c H locs la hX hY hl)
theorem zm_if_ge {x : Int32} {off : Int} (tgt : Nat) (hdg : decode M.2.2.1 pc = .ok (.ifCond .ge off, 3)) (ht : (pc : Int) + off = (tgt : Int)) (kt : 0 ≤ x → zm_T SH d M Q tgt ls st w) (kf : ¬ 0 ≤ x → zm_T SH d M Q (pc + 3) ls st w) : zm_T SH d M Q pc ls (.int x :: st) w := by
  intro l D ca ad p e s m args below meth c H locs la hX hY hl
  exact lv_if_ge hX.1 hX.2.1 hdg ht (fun h => kt h l D ca ad p e s m args below meth c H locs la hX hY hl) (fun h => kf h l D ca ad p e s m args below meth c H locs la hX hY hl)
theorem zm_icmp_ge {x y : Int32} {off : Int} (tgt : Nat) (hdg : decode M.2.2.1 pc = .ok (.if_icmp .ge off, 3)) (ht : (pc : Int) + off = (tgt : Int)) (kt : y ≤ x → zm_T SH d M Q tgt ls st w) (kf : ¬ y ≤ x → zm_T SH d M Q (pc + 3) ls st w) : zm_T SH d M Q pc ls (.int y :: .int x :: st) w := by
  intro l D ca ad p e s m args below meth c H locs la hX hY hl
  exact lv_icmp_ge hX.1 hX.2.1 hdg ht (fun h => kt h l D ca ad p e s m args below meth c H locs la hX hY hl) (fun h => kf h l D ca ad p e s m args below meth c H locs la hX hY hl)
theorem zm_if_gt {x : Int32} {off : Int} (tgt : Nat) (hdg : decode M.2.2.1 pc = .ok (.ifCond .gt off, 3)) (ht : (pc : Int) + off = (tgt : Int)) (kt : 0 < x → zm_T SH d M Q tgt ls st w) (kf : ¬ 0 < x → zm_T SH d M Q (pc + 3) ls st w) : zm_T SH d M Q pc ls (.int x :: st) w := by
  intro l D ca ad p e s m args below meth c H locs la hX hY hl
  exact lv_if_gt hX.1 hX.2.1 hdg ht (fun h => kt h l D ca ad p e s m args below meth c H locs la hX hY hl) (fun h => kf h l D ca ad p e s m args below meth c H locs la hX hY hl)
theorem zm_icmp_gt {x y : Int32} {off : Int} (tgt : Nat) (hdg : decode M.2.2.1 pc = .ok (.if_icmp .gt off, 3)) (ht : (pc : Int) + off = (tgt : Int)) (kt : y < x → zm_T SH d M Q tgt ls st w) (kf : ¬ y < x → zm_T SH d M Q (pc + 3) ls st w) : zm_T SH d M Q pc ls (.int y :: .int x :: st) w := by
  intro l D ca ad p e s m args below meth c H locs la hX hY hl
  exact lv_icmp_gt hX.1 hX.2.1 hdg ht (fun h => kt h l D ca ad p e s m args below meth c H locs la hX hY hl) (fun h => kf h l D ca ad p e s m args below meth c H locs la hX hY hl)
theorem zm_if_le {x : Int32} {off : Int} (tgt : Nat) (hdg : decode M.2.2.1 pc = .ok (.ifCond .le off, 3)) (ht : (pc : Int) + off = (tgt : Int)) (kt : x ≤ 0 → zm_T SH d M Q tgt ls st w) (kf : ¬ x ≤ 0 → zm_T SH d M Q (pc + 3) ls st w) : zm_T SH d M Q pc ls (.int x :: st) w := by
  intro l D ca ad p e s m args below meth c H locs la hX hY hl
  exact lv_if_le hX.1 hX.2.1 hdg ht (fun h => kt h l D ca ad p e s m args below meth c H locs la hX hY hl) (fun h => kf h l D ca ad p e s m args below meth c H locs la hX hY hl)
theorem zm_icmp_le {x y : Int32} {off : Int} (tgt : Nat) (hdg : decode M.2.2.1 pc = .ok (.if_icmp .le off, 3)) (ht : (pc : Int) + off = (tgt : Int)) (kt : x ≤ y → zm_T SH d M Q tgt ls st w) (kf : ¬ x ≤ y → zm_T SH d M Q (pc + 3) ls st w) : zm_T SH d M Q pc ls (.int y :: .int x :: st) w := by
  intro l D ca ad p e s m args below meth c H locs la hX hY hl
  exact lv_icmp_le hX.1 hX.2.1 hdg ht (fun h => kt h l D ca ad p e s m args below meth c H locs la hX hY hl) (fun h => kf h l D ca ad p e s m args below meth c H locs la hX hY hl)
theorem zm_tableIn {dflt lo hi : Int} {offs : Array Int} {len : Nat} {x : Int32} {off : Int} (tgt : Nat) (hdg : decode M.2.2.1 pc = .ok (.tableswitch dflt lo hi offs, len)) (h1 : ¬ x.toInt < lo) (h2 : ¬ hi < x.toInt) (ho : offs[(x.toInt - lo).toNat]? = some off) (ht : (pc : Int) + off = (tgt : Int)) (k : zm_T SH d M Q tgt ls st w) : zm_T SH d M Q pc ls (.int x :: st) w := by
  intro l D ca ad p e s m args below meth c H locs la hX hY hl
  exact lv_tableIn hX.1 hX.2.1 hdg h1 h2 ho ht (k l D ca ad p e s m args below meth c H locs la hX hY hl)
theorem zm_tableOut {dflt lo hi : Int} {offs : Array Int} {len : Nat} {x : Int32} (tgt : Nat) (hdg : decode M.2.2.1 pc = .ok (.tableswitch dflt lo hi offs, len)) (h1 : x.toInt < lo ∨ hi < x.toInt) (ht : (pc : Int) + dflt = (tgt : Int)) (k : zm_T SH d M Q tgt ls st w) : zm_T SH d M Q pc ls (.int x :: st) w := by
  intro l D ca ad p e s m args below meth c H locs la hX hY hl
  exact lv_tableOut hX.1 hX.2.1 hdg h1 ht (k l D ca ad p e s m args below meth c H locs la hX hY hl)
theorem zm_ireturn {x : Int32} (hdg : decode M.2.2.1 pc = .ok (.ireturn, 1)) (hr : M.2.2.2.2 = some .int) (k : Q (.int x) w) : zm_T SH d M Q pc ls [.int x] w := by
  intro l D ca ad p e s m args below meth c H locs la hX hY hl
  refine W.iret hX.1 hX.2.1 (hX.2.2.2.1.trans hr) (fun t ht hW => ?_) hY.2.2.2.2 hdg hX.2.2.2.2.1
  rw [hr]
  exact ⟨⟨x, w, rfl, k, by rw [ht]; exact hY.1, va_K.moved hW.alike hX.2.2.2.2.2.2.2.2, hY.2.1⟩, hY.2.2.F ht⟩
theorem zm_zreturn {x : Int32} (hdg : decode M.2.2.1 pc = .ok (.ireturn, 1)) (hr : M.2.2.2.2 = some .boolean) (hx : x &&& 1 = x) (k : Q (.int x) w) : zm_T SH d M Q pc ls [.int x] w := by
  intro l D ca ad p e s m args below meth c H locs la hX hY hl
  refine W.zret hX.1 hX.2.1 (hX.2.2.2.1.trans hr) (by simp [narrow, hx]) (fun t ht hW => ?_) hY.2.2.2.2 hdg hX.2.2.2.2.1
  rw [hr]
  exact ⟨⟨x, w, rfl, k, by rw [ht]; exact hY.1, va_K.moved hW.alike hX.2.2.2.2.2.2.2.2, hY.2.1⟩, hY.2.2.F ht⟩
theorem zm_lreturn {x : Int64} (hdg : decode M.2.2.1 pc = .ok (.lreturn, 1)) (hr : M.2.2.2.2 = some .long) (k : Q (.long x) w) : zm_T SH d M Q pc ls [.long x] w := by
  intro l D ca ad p e s m args below meth c H locs la hX hY hl
  refine W.lret hX.1 hX.2.1 (hX.2.2.2.1.trans hr) (fun t ht hW => ?_) hY.2.2.2.2 hdg hX.2.2.2.2.1
  rw [hr]
  exact ⟨⟨x, w, rfl, k, by rw [ht]; exact hY.1, va_K.moved hW.alike hX.2.2.2.2.2.2.2.2, hY.2.1⟩, hY.2.2.F ht⟩
theorem zm_return (hdg : decode M.2.2.1 pc = .ok (.return_, 1)) (hr : M.2.2.2.2 = none) (k : Q .null w) : zm_T SH d M Q pc ls [] w := by
  intro l D ca ad p e s m args below meth c H locs la hX hY hl
  refine W.vret hX.1 hX.2.1 (hX.2.2.2.1.trans hr) (fun t ht hW => ?_) hY.2.2.2.2 hdg hX.2.2.2.2.1
  rw [hr]
  exact ⟨⟨w, rfl, k, by rw [ht]; exact hY.1, va_K.moved hW.alike hX.2.2.2.2.2.2.2.2, hY.2.1⟩, hY.2.2.F ht⟩
/-- a class of the tables: its number, its fields, their words among those that hold -/
def zm_Cl (ci : Nat) (C : String) (T : u_T) (N : Nat) : Prop := vwCl[ci]? = some (C, T, N) ∧ (∀ z ∈ u_ws C T N, z ∈ zm_tb) ∧ (∃ ty0 : Nat → FieldType, ∀ k, k < N → parseFieldDescriptor (T k).2.2.1 = some (ty0 k)) ∧ ∀ a, a < N → ∀ b, b < N → a ≠ b → (T a).2.1 ≠ (T b).2.1
/-- a field's entry in a class's pool: a word that holds, or the nest's -/
def zm_Fl (own : String) (idx : Nat) (q : String × String × String × Bool) : Prop := Cond.fieldLink own idx q.1 q.2.1 q.2.2.1 ∈ zm_tb ∨ ∃ host, Cond.fieldLinkNest own idx q.1 q.2.1 q.2.2.1 host ∈ zm_nt
theorem zm_getf {ci : Nat} {C : String} {T : u_T} {N k0 j i : Nat} {fs : List (Option Nat)} {o : Option Nat} {v : Value} (hdg : decode M.2.2.1 pc = .ok (.getfield i, 3)) (hc : zm_Cl ci C T N) (hl0 : zm_Fl M.1 i (T j)) (hj : j < N) (hs : SH[k0]? = some (.inr (ci, fs))) (ho : fs[j]? = some o) (hv : (match o with | some q => Value.ref q | none => .int (w.1 k0 j)) = v) (k : zm_T SH d M Q (pc + 3) ls (v :: st) w) : zm_T SH d M Q pc ls (.ref k0 :: st) w := by
  intro l D ca ad p e s m args below meth c H locs la hX hY hl
  have hw := zm_W_at (ca := ca) (ad := ad) (w := w) hs
  have hval : (fs.mapIdx (zm_o ad (w.1 k0)))[j]? = some (zm_v ad v) := by
    rw [List.getElem?_mapIdx, ho]
    cases o with
    | none => cases hv; rfl
    | some q => cases hv; rfl
  rcases hl0 with h | ⟨host, h⟩
  · exact va_get hX.1 hX.2.1 hX.2.2.2.2.2.2.1 hc.2.1 hX.2.2.2.2.2.1 hX.2.2.2.2.2.2.2.2 hY.1 k0 hw hc.1 j hj (hX.2.2.2.2.2.2.1 _ h) (fun _ h => h) hval hdg (k l D ca ad p e s m args below meth c H locs la hX hY hl)
  · exact va_getN hX.1 hX.2.1 hX.2.2.2.2.2.2.1 hc.2.1 hX.2.2.2.2.2.1 hX.2.2.2.2.2.2.2.2 hY.1 k0 hw hc.1 j hj (va_Nw.use rfl (hX.2.2.2.2.2.2.2.1 _ h)) (fun _ h => h) hval hdg (k l D ca ad p e s m args below meth c H locs la hX hY hl)
theorem zm_putf {ci : Nat} {C : String} {T : u_T} {N k0 j i : Nat} {fs : List (Option Nat)} {x : Int32} {ty : FieldType} (hdg : decode M.2.2.1 pc = .ok (.putfield i, 3)) (hc : zm_Cl ci C T N) (hl0 : zm_Fl M.1 i (T j)) (hj : j < N) (hs : SH[k0]? = some (.inr (ci, fs))) (ho : fs[j]? = some none) (hfin : (T j).2.2.2 = false) (hd : parseFieldDescriptor (T j).2.2.1 = some ty) (hn : narrow ty (.int x) = .int x) (hfit : fits ty (.int x) = true) (k : zm_T SH d M Q (pc + 3) ls st (zm_pi w k0 j x)) : zm_T SH d M Q pc ls (.int x :: .ref k0 :: st) w := by
  intro l D ca ad p e s m args below meth c H locs la hX hY hl
  have hw := zm_W_at (ca := ca) (ad := ad) (w := w) hs
  obtain ⟨ty0, hty0⟩ := hc.2.2.1
  have hlen : j < (fs.mapIdx (zm_o ad (w.1 k0))).length := by rw [List.length_mapIdx]; exact (List.getElem?_eq_some_iff.mp ho).1
  have hset : (zm_W SH ca ad w).set k0 (ad k0, .inr (ci, (fs.mapIdx (zm_o ad (w.1 k0))).set j (.int x))) = zm_W SH ca ad (zm_pi w k0 j x) := by
    rw [zm_o_set ho, ← zm_W_seti hs]
    rfl
  rcases hl0 with h | ⟨host, h⟩
  · refine va_put hX.1 hX.2.1 hX.2.2.2.2.2.2.1 hc.2.1 ty0 hty0 hc.2.2.2 hX.2.2.2.2.2.1 hX.2.2.2.2.2.2.2.2 hY.1 hY.2.1 hY.2.2 k0 hw hc.1 j hj (hX.2.2.2.2.2.2.1 _ h) (fun _ h => h) hfin hd hn hfit hlen hdg (fun H1 locs1 hP1 hD1 hS1 => ?_)
    exact k l D ca ad p e s m args below meth c H1 locs1 la hX ⟨by rw [← hset]; exact hP1, by rw [← hset]; exact hD1, hS1⟩ hl
  · refine va_putN hX.1 hX.2.1 hX.2.2.2.2.2.2.1 hc.2.1 ty0 hty0 hc.2.2.2 hX.2.2.2.2.2.1 hX.2.2.2.2.2.2.2.2 hY.1 hY.2.1 hY.2.2 k0 hw hc.1 j hj (va_Nw.use rfl (hX.2.2.2.2.2.2.2.1 _ h)) (fun _ h => h) hfin hd hn hfit hlen hdg (fun H1 locs1 hP1 hD1 hS1 => ?_)
    exact k l D ca ad p e s m args below meth c H1 locs1 la hX ⟨by rw [← hset]; exact hP1, by rw [← hset]; exact hD1, hS1⟩ hl
theorem zm_iald {k0 n : Nat} {i : Int32} {rs : List Nat} (hdg : decode M.2.2.1 pc = .ok (.iaload, 1)) (hs : SH[k0]? = some (.inl (.int, n, rs))) (hi : vp_in i n) (k : zm_T SH d M Q (pc + 1) ls (.int (w.1 k0 i.toNatClampNeg) :: st) w) : zm_T SH d M Q pc ls (.int i :: .ref k0 :: st) w := by
  intro l D ca ad p e s m args below meth c H locs la hX hY hl
  exact va_iald hX.1 hX.2.1 hX.2.2.2.2.2.2.2.2 hY.1 k0 0 (zm_W_at hs) rfl hi hdg (k l D ca ad p e s m args below meth c H locs la hX hY hl)
theorem zm_lald {k0 n : Nat} {i : Int32} {rs : List Nat} (hdg : decode M.2.2.1 pc = .ok (.laload, 1)) (hs : SH[k0]? = some (.inl (.long, n, rs))) (hi : vp_in i n) (k : zm_T SH d M Q (pc + 1) ls (.long (w.2 k0 i.toNatClampNeg) :: st) w) : zm_T SH d M Q pc ls (.int i :: .ref k0 :: st) w := by
  intro l D ca ad p e s m args below meth c H locs la hX hY hl
  exact va_lald hX.1 hX.2.1 hX.2.2.2.2.2.2.2.2 hY.1 k0 1 (zm_W_at hs) rfl hi hdg (k l D ca ad p e s m args below meth c H locs la hX hY hl)
theorem zm_bald {k0 n : Nat} {i : Int32} {rs : List Nat} (hdg : decode M.2.2.1 pc = .ok (.baload, 1)) (hs : SH[k0]? = some (.inl (.byte, n, rs))) (hi : vp_in i n) (k : zm_T SH d M Q (pc + 1) ls (.int (w.1 k0 i.toNatClampNeg) :: st) w) : zm_T SH d M Q pc ls (.int i :: .ref k0 :: st) w := by
  intro l D ca ad p e s m args below meth c H locs la hX hY hl
  exact va_bald hX.1 hX.2.1 hX.2.2.2.2.2.2.2.2 hY.1 k0 2 (zm_W_at hs) rfl hi hdg (k l D ca ad p e s m args below meth c H locs la hX hY hl)
theorem zm_sald {k0 n : Nat} {i : Int32} {rs : List Nat} (hdg : decode M.2.2.1 pc = .ok (.saload, 1)) (hs : SH[k0]? = some (.inl (.short, n, rs))) (hi : vp_in i n) (k : zm_T SH d M Q (pc + 1) ls (.int (w.1 k0 i.toNatClampNeg) :: st) w) : zm_T SH d M Q pc ls (.int i :: .ref k0 :: st) w := by
  intro l D ca ad p e s m args below meth c H locs la hX hY hl
  exact va_sald hX.1 hX.2.1 hX.2.2.2.2.2.2.2.2 hY.1 k0 3 (zm_W_at hs) rfl hi hdg (k l D ca ad p e s m args below meth c H locs la hX hY hl)
theorem zm_zald {k0 n : Nat} {i : Int32} {rs : List Nat} (hdg : decode M.2.2.1 pc = .ok (.baload, 1)) (hs : SH[k0]? = some (.inl (.boolean, n, rs))) (hi : vp_in i n) (k : zm_T SH d M Q (pc + 1) ls (.int (w.1 k0 i.toNatClampNeg) :: st) w) : zm_T SH d M Q pc ls (.int i :: .ref k0 :: st) w := by
  intro l D ca ad p e s m args below meth c H locs la hX hY hl
  exact va_zald hX.1 hX.2.1 hX.2.2.2.2.2.2.2.2 hY.1 k0 4 (zm_W_at hs) rfl hi hdg (k l D ca ad p e s m args below meth c H locs la hX hY hl)
theorem zm_iast {k0 n : Nat} {i x : Int32} {rs : List Nat} (hdg : decode M.2.2.1 pc = .ok (.iastore, 1)) (hs : SH[k0]? = some (.inl (.int, n, rs))) (hi : vp_in i n) (k : zm_T SH d M Q (pc + 1) ls st (zm_pi w k0 i.toNatClampNeg x)) : zm_T SH d M Q pc ls (.int x :: .int i :: .ref k0 :: st) w := by
  intro l D ca ad p e s m args below meth c H locs la hX hY hl
  refine va_iast hX.1 hX.2.1 hX.2.2.2.2.2.2.2.2 hY.1 hY.2.1 hY.2.2 k0 0 (zm_W_at hs) rfl hi hdg (fun H1 locs1 hP1 hD1 hS1 => ?_)
  have hset := zm_W_seti (ca := ca) (ad := ad) (w := w) hs (upd (w.1 k0) i.toNatClampNeg x)
  exact k l D ca ad p e s m args below meth c H1 locs1 la hX ⟨by rw [← hset]; exact hP1, by rw [← hset]; exact hD1, hS1⟩ hl
theorem zm_bast {k0 n : Nat} {i x : Int32} {rs : List Nat} (hdg : decode M.2.2.1 pc = .ok (.bastore, 1)) (hs : SH[k0]? = some (.inl (.byte, n, rs))) (hi : vp_in i n) (k : zm_T SH d M Q (pc + 1) ls st (zm_pi w k0 i.toNatClampNeg (vp_nar .byte x))) : zm_T SH d M Q pc ls (.int x :: .int i :: .ref k0 :: st) w := by
  intro l D ca ad p e s m args below meth c H locs la hX hY hl
  refine va_bast hX.1 hX.2.1 hX.2.2.2.2.2.2.2.2 hY.1 hY.2.1 hY.2.2 k0 2 (zm_W_at hs) rfl hi hdg (fun H1 locs1 hP1 hD1 hS1 => ?_)
  have hset := zm_W_seti (ca := ca) (ad := ad) (w := w) hs (upd (w.1 k0) i.toNatClampNeg (vp_nar .byte x))
  exact k l D ca ad p e s m args below meth c H1 locs1 la hX ⟨by rw [← hset]; exact hP1, by rw [← hset]; exact hD1, hS1⟩ hl
theorem zm_sast {k0 n : Nat} {i x : Int32} {rs : List Nat} (hdg : decode M.2.2.1 pc = .ok (.sastore, 1)) (hs : SH[k0]? = some (.inl (.short, n, rs))) (hi : vp_in i n) (k : zm_T SH d M Q (pc + 1) ls st (zm_pi w k0 i.toNatClampNeg (vp_nar .short x))) : zm_T SH d M Q pc ls (.int x :: .int i :: .ref k0 :: st) w := by
  intro l D ca ad p e s m args below meth c H locs la hX hY hl
  refine va_sast hX.1 hX.2.1 hX.2.2.2.2.2.2.2.2 hY.1 hY.2.1 hY.2.2 k0 3 (zm_W_at hs) rfl hi hdg (fun H1 locs1 hP1 hD1 hS1 => ?_)
  have hset := zm_W_seti (ca := ca) (ad := ad) (w := w) hs (upd (w.1 k0) i.toNatClampNeg (vp_nar .short x))
  exact k l D ca ad p e s m args below meth c H1 locs1 la hX ⟨by rw [← hset]; exact hP1, by rw [← hset]; exact hD1, hS1⟩ hl
theorem zm_zast {k0 n : Nat} {i x : Int32} {rs : List Nat} (hdg : decode M.2.2.1 pc = .ok (.bastore, 1)) (hs : SH[k0]? = some (.inl (.boolean, n, rs))) (hi : vp_in i n) (k : zm_T SH d M Q (pc + 1) ls st (zm_pi w k0 i.toNatClampNeg (vp_nar .boolean x))) : zm_T SH d M Q pc ls (.int x :: .int i :: .ref k0 :: st) w := by
  intro l D ca ad p e s m args below meth c H locs la hX hY hl
  refine va_zast hX.1 hX.2.1 hX.2.2.2.2.2.2.2.2 hY.1 hY.2.1 hY.2.2 k0 4 (zm_W_at hs) rfl hi hdg (fun H1 locs1 hP1 hD1 hS1 => ?_)
  have hset := zm_W_seti (ca := ca) (ad := ad) (w := w) hs (upd (w.1 k0) i.toNatClampNeg (vp_nar .boolean x))
  exact k l D ca ad p e s m args below meth c H1 locs1 la hX ⟨by rw [← hset]; exact hP1, by rw [← hset]; exact hD1, hS1⟩ hl
theorem zm_last {k0 n : Nat} {i : Int32} {x : Int64} {rs : List Nat} (hdg : decode M.2.2.1 pc = .ok (.lastore, 1)) (hs : SH[k0]? = some (.inl (.long, n, rs))) (hi : vp_in i n) (k : zm_T SH d M Q (pc + 1) ls st (zm_pl w k0 i.toNatClampNeg x)) : zm_T SH d M Q pc ls (.long x :: .int i :: .ref k0 :: st) w := by
  intro l D ca ad p e s m args below meth c H locs la hX hY hl
  refine va_last hX.1 hX.2.1 hX.2.2.2.2.2.2.2.2 hY.1 hY.2.1 hY.2.2 k0 1 (zm_W_at hs) rfl hi hdg (fun H1 locs1 hP1 hD1 hS1 => ?_)
  have hset := zm_W_setl (ca := ca) (ad := ad) (w := w) hs (vp_updL (w.2 k0) i.toNatClampNeg x)
  exact k l D ca ad p e s m args below meth c H1 locs1 la hX ⟨by rw [← hset]; exact hP1, by rw [← hset]; exact hD1, hS1⟩ hl
theorem zm_aald {k0 n q : Nat} {i : Int32} {rs : List Nat} (hdg : decode M.2.2.1 pc = .ok (.aaload, 1)) (hs : SH[k0]? = some (.inl ((.object RX5), n, rs))) (hi : vp_in i n) (hq : rs[i.toNatClampNeg]? = some q) (k : zm_T SH d M Q (pc + 1) ls (.ref q :: st) w) : zm_T SH d M Q pc ls (.int i :: .ref k0 :: st) w := by
  intro l D ca ad p e s m args below meth c H locs la hX hY hl
  have hlt : i.toNatClampNeg < n := Nat.not_le.mp fun z => hi (Or.inr z)
  have hv : va_rf ((rs[i.toNatClampNeg]?).map ad) = .ref (ad q) := by rw [hq]; rfl
  exact W.aald (v := .ref (ad q)) (ty := (.object RX5)) hX.1 hX.2.1 (hY.1 k0 _ (zm_W_at hs)) ((hX.2.2.2.2.2.2.2.2.2 5 _ rfl).1 n (fun j => va_rf ((rs[j]?).map ad))) rfl (fun z => by cases z) (by show ¬ (i < 0 ∨ (arrV _ _ _).slots.size ≤ _); rw [arrV_size]; exact hi) (by show (arrV _ _ _).slots[_]? = _; rw [arrV_read _ _ hlt, hv]) rfl rfl hdg (k l D ca ad p e s m args below meth c H locs la hX hY hl)
theorem zm_gald {k0 n q : Nat} {i : Int32} {rs : List Nat} (hdg : decode M.2.2.1 pc = .ok (.aaload, 1)) (hs : SH[k0]? = some (.inl ((.array .int), n, rs))) (hi : vp_in i n) (hq : rs[i.toNatClampNeg]? = some q) (k : zm_T SH d M Q (pc + 1) ls (.ref q :: st) w) : zm_T SH d M Q pc ls (.int i :: .ref k0 :: st) w := by
  intro l D ca ad p e s m args below meth c H locs la hX hY hl
  have hlt : i.toNatClampNeg < n := Nat.not_le.mp fun z => hi (Or.inr z)
  have hv : va_rf ((rs[i.toNatClampNeg]?).map ad) = .ref (ad q) := by rw [hq]; rfl
  exact W.aald (v := .ref (ad q)) (ty := (.array .int)) hX.1 hX.2.1 (hY.1 k0 _ (zm_W_at hs)) ((hX.2.2.2.2.2.2.2.2.2 6 _ rfl).1 n (fun j => va_rf ((rs[j]?).map ad))) rfl (fun z => by cases z) (by show ¬ (i < 0 ∨ (arrV _ _ _).slots.size ≤ _); rw [arrV_size]; exact hi) (by show (arrV _ _ _).slots[_]? = _; rw [arrV_read _ _ hlt, hv]) rfl rfl hdg (k l D ca ad p e s m args below meth c H locs la hX hY hl)
theorem zm_alen {k0 n : Nat} {v : Int32} {rs : List Nat} (hdg : decode M.2.2.1 pc = .ok (.arraylength, 1)) (hs : SH[k0]? = some (.inl (.int, n, rs))) (hv : Int32.ofNat n = v) (k : zm_T SH d M Q (pc + 1) ls (.int v :: st) w) : zm_T SH d M Q pc ls (.ref k0 :: st) w := by
  intro l D ca ad p e s m args below meth c H locs la hX hY hl
  exact va_alen hX.1 hX.2.1 hX.2.2.2.2.2.2.2.2 hY.1 k0 0 (zm_W_at hs) rfl hv hdg (k l D ca ad p e s m args below meth c H locs la hX hY hl)
theorem zm_good {z : Cond} (h : z ∈ zm_tb) : GoodIn zm_tb (z :: zm_tb) := by
  have key : ∀ x ∈ zm_tb, x ∈ zm_tb ∧ ((x.onTables && x.keeps) = true ∨ ∃ ty, x = .arrayClass ty) := fun x hx => ⟨hx, good_of_word (List.mem_filter.mp hx).2⟩
  intro x hx
  rcases List.mem_cons.mp hx with rfl | hx
  · exact key _ h
  · exact key _ hx
theorem zm_nt_tab {z : Cond} (h : z ∈ zm_nt) : z.onTables = true := by
  have h2 := (List.mem_filter.mp h).2
  cases z <;> first | rfl | (simp [zm_isN] at h2)
theorem zm_nt_same {u U : State} (h : u.vm = U.vm) (hN : ∀ z ∈ zm_nt, va_Nw z u) : ∀ z ∈ zm_nt, va_Nw z U := fun z hz => va_Nw.same (zm_nt_tab hz) h (hN z hz)
theorem zm_nt_warm {u U : State} (h : u.WarmedH U.vm) (hN : ∀ z ∈ zm_nt, va_Nw z u) : ∀ z ∈ zm_nt, va_Nw z U := fun z hz => by
  have h2 := (List.mem_filter.mp hz).2
  have h3 := hN z hz
  cases z <;> first | exact va_Nw.warmF h h3 | exact va_Nw.warmM h h3 | (simp [zm_isN] at h2)
/-- what the tables say of a method; n: how many parameters -/
def zm_Mt (N : zm_M) (n : Nat) : Prop := N.2.1.cls = N.1 ∧ Cond.code N.2.1 N.2.2.1 N.2.2.2.1 N.2.2.2.2 ∈ zm_tb ∧ Cond.initialized N.2.1.cls ∈ zm_tb ∧ (N.2.1.cls ≠ "java/lang/invoke/MethodHandle" ∧ N.2.1.cls ≠ "java/lang/invoke/VarHandle") ∧ (parseMethodDescriptor N.2.1.desc).map (fun q => q.parameters.length) = some n ∧ N.2.2.2.1 ≤ 40 ∧ plainName N.2.1.cls = true
def zm_Mv (N : zm_M) (n : Nat) : Prop := zm_Mt N n ∧ Cond.instanceMethod N.2.1 ∈ zm_tb ∧ Cond.selects N.1 N.2.1 N.2.1 ∈ zm_tb
def zm_Ms (N : zm_M) (n : Nat) : Prop := zm_Mt N n ∧ Cond.static N.2.1 ∈ zm_tb
theorem zm_cB {N : zm_M} {n idx : Nat} {args : Array Value} {s : State} {own : String} (hN : zm_Mt N n) (hl : Cond.methodLink own idx N.2.1 ∈ zm_tb) (hts : ∀ z ∈ zm_tb, z.before args s = true) : CallB (zm_R (d + 1)) s args own idx N.2.1 N.2.2.1 N.2.2.2.1 N.2.2.2.2 (Cond.code N.2.1 N.2.2.1 N.2.2.2.1 N.2.2.2.2 :: zm_tb) (zm_R d) 0 0 n :=
  callB_of n hts (zm_good hN.2.1) rfl rfl rfl (hts _ hN.2.2.1) (hts _ hl) ⟨hN.2.2.2.1.1, hN.2.2.2.1.2, hN.2.2.2.2.1⟩ ⟨Nat.le_refl _, by have := hN.2.2.2.2.2.1; show 8 + (N.2.2.2.1 + 11) + 70 * (d + 1) ≤ 70 * (d + 1 + 1); omega⟩
theorem zm_blind {SH : List zm_H} {D : va_G} {ca : FieldType → ClassId} {ad : Nat → Nat} {w : zm_S} {av : List Value} {sz : Nat} : FrameBlind (va_Pc av (fun U => U.heap.size = sz ∧ va_P D vwCl (zm_W SH ca ad w) U.heap ∧ va_K D vwCl (zm_ty ca) U ∧ va_D (fun _ => True) (zm_W SH ca ad w) ∧ ∀ z ∈ zm_nt, va_Nw z U)) := fun a U g mk q => by
  obtain ⟨q0, q1, qP, qK, qD, qN⟩ := q
  exact ⟨q0, q1, qP, va_K.moved (u := U) (U := U.calling g mk a) (Vm.Alike.refl U.vm) qK, qD, zm_nt_same (u := U) (U := U.calling g mk a) rfl qN⟩
theorem zm_st_app (ad : Nat → Nat) (a b : List Value) : zm_st ad (a ++ b) = zm_st ad a ++ zm_st ad b := List.map_append
theorem zm_st_rev (ad : Nat → Nat) (a : List Value) : zm_st ad a.reverse = (zm_st ad a).reverse := List.map_reverse
theorem zm_st_cat (ad : Nat → Nat) : ∀ a : List Value, ((zm_st ad a).map fun v => v.category).sum = (a.map fun v => v.category).sum
  | [] => rfl
  | v :: a => by
    show (zm_v ad v).category + ((zm_st ad a).map fun v => v.category).sum = v.category + (a.map fun v => v.category).sum
    rw [zm_v_cat, zm_st_cat ad a]
theorem zm_callVv {N : zm_M} {k0 idx n ci : Nat} {as rest : List Value} {fs : List (Option Nat)} {C : String} {T : u_T} {Nf : Nat} {Q' : Value → zm_S → Prop} (hdg : decode M.2.2.1 pc = .ok (.invokevirtual idx, 3)) (hst : st = as.reverse ++ .ref k0 :: rest) (hN : zm_Mv N n) (hlk : Cond.methodLink M.1 idx N.2.1 ∈ zm_tb) (hs : SH[k0]? = some (.inr (ci, fs))) (hcl : vwCl[ci]? = some (C, T, Nf)) (hCn : C = N.1) (hn : as.length = n) (hrm : (rest.map fun v => v.category).sum ≤ 8) (hC : zm_C SH d N (.ref k0 :: as) w Q') (hr : N.2.2.2.2 = none) (k : ∀ (u : zm_S), Q' .null u → zm_T SH (d + 1) M Q (pc + 3) ls rest u) : zm_T SH (d + 1) M Q pc ls st w := by
  intro l D ca ad p e s m args below meth c H locs la hX hY hl
  have hsub : ∀ q, zm_A SH ad H.size q → zm_A SH ad s.heap.size q := fun q h => h.elim (fun h => Or.inl h) (fun h => Or.inr (Nat.le_trans hY.2.2.1 h))
  have hrun := va_runV (As := zm_st ad as) (rest := zm_st ad rest) (C := C) ⟨hX.1, hX.2.1, hX.2.2.1, hX.2.2.2.2.2.1, hX.2.2.2.2.2.2.1⟩ (hC l D ca ad H.size) ⟨zm_cB hN.1 hlk hX.2.2.2.2.2.2.1, hX.2.2.2.2.2.2.1 _ hN.2.1, by rw [hCn]; exact hX.2.2.2.2.2.2.1 _ hN.2.2⟩ ⟨zm_blind, va_recv hX.2.2.2.2.2.2.2.2 hY.1 hcl (zm_W_at hs), fun U hU hW => ⟨rfl, by rw [hU], by rw [hU]; exact hY.1, va_K.moved hW.alike hX.2.2.2.2.2.2.2.2, hY.2.1.weaken (fun _ _ _ _ => trivial), zm_nt_warm hW hX.2.2.2.2.2.2.2.1⟩⟩ rfl (by rw [zm_st, List.length_map]; exact hn) hl.1 (by rw [hst, zm_st_app, zm_st_rev]; rfl) (lv_room (by rw [zm_st_cat]; exact hrm)) hdg ⟨Nat.le_refl _, Nat.le_refl _⟩ (g := F0 m pc la (zm_st ad st)) (p := p) (e := e) (below := below) (meth := meth) (locs := locs) (cells := 0) (slots := 0)
  have hqq : zm_Q SH D ca ad N.2.2.2.2 Q' (zm_A SH ad H.size) = va_Qv (fun u => Q' .null u) (zm_B SH D ca ad (zm_A SH ad H.size)) (zm_A SH ad H.size) := by rw [hr]; rfl
  rw [hqq] at hrun
  refine va_callv hrun hY.2.2 (fun q _ h => hsub q h) hsub (fun u t H1 locs1 ht hvm hpost hB hz1 hk1 hS1 => ?_)
  obtain ⟨hP1, hK1, hD1⟩ := hB
  exact k u hpost l D ca ad p e s m args below meth c H1 locs1 la hX ⟨by rw [← ht]; exact hP1, zm_D_self hD1, hS1⟩ hl
theorem zm_callVi {N : zm_M} {k0 idx n ci : Nat} {as rest : List Value} {fs : List (Option Nat)} {C : String} {T : u_T} {Nf : Nat} {Q' : Value → zm_S → Prop} (hdg : decode M.2.2.1 pc = .ok (.invokevirtual idx, 3)) (hst : st = as.reverse ++ .ref k0 :: rest) (hN : zm_Mv N n) (hlk : Cond.methodLink M.1 idx N.2.1 ∈ zm_tb) (hs : SH[k0]? = some (.inr (ci, fs))) (hcl : vwCl[ci]? = some (C, T, Nf)) (hCn : C = N.1) (hn : as.length = n) (hrm : (rest.map fun v => v.category).sum ≤ 8) (hC : zm_C SH d N (.ref k0 :: as) w Q') (hr : N.2.2.2.2 = some .int) (k : ∀ (r : Int32) (u : zm_S), Q' (.int r) u → zm_T SH (d + 1) M Q (pc + 3) ls (.int r :: rest) u) : zm_T SH (d + 1) M Q pc ls st w := by
  intro l D ca ad p e s m args below meth c H locs la hX hY hl
  have hsub : ∀ q, zm_A SH ad H.size q → zm_A SH ad s.heap.size q := fun q h => h.elim (fun h => Or.inl h) (fun h => Or.inr (Nat.le_trans hY.2.2.1 h))
  have hrun := va_runV (As := zm_st ad as) (rest := zm_st ad rest) (C := C) ⟨hX.1, hX.2.1, hX.2.2.1, hX.2.2.2.2.2.1, hX.2.2.2.2.2.2.1⟩ (hC l D ca ad H.size) ⟨zm_cB hN.1 hlk hX.2.2.2.2.2.2.1, hX.2.2.2.2.2.2.1 _ hN.2.1, by rw [hCn]; exact hX.2.2.2.2.2.2.1 _ hN.2.2⟩ ⟨zm_blind, va_recv hX.2.2.2.2.2.2.2.2 hY.1 hcl (zm_W_at hs), fun U hU hW => ⟨rfl, by rw [hU], by rw [hU]; exact hY.1, va_K.moved hW.alike hX.2.2.2.2.2.2.2.2, hY.2.1.weaken (fun _ _ _ _ => trivial), zm_nt_warm hW hX.2.2.2.2.2.2.2.1⟩⟩ rfl (by rw [zm_st, List.length_map]; exact hn) hl.1 (by rw [hst, zm_st_app, zm_st_rev]; rfl) (lv_room (by rw [zm_st_cat]; exact hrm)) hdg ⟨Nat.le_refl _, Nat.le_refl _⟩ (g := F0 m pc la (zm_st ad st)) (p := p) (e := e) (below := below) (meth := meth) (locs := locs) (cells := 0) (slots := 0)
  have hqq : zm_Q SH D ca ad N.2.2.2.2 Q' (zm_A SH ad H.size) = va_Qi (fun r u => Q' (.int r) u) (zm_B SH D ca ad (zm_A SH ad H.size)) (zm_A SH ad H.size) := by rw [hr]; rfl
  rw [hqq] at hrun
  refine va_calli hrun hY.2.2 (fun q _ h => hsub q h) hsub (fun r u t H1 locs1 ht hvm hpost hB hz1 hk1 hS1 => ?_)
  obtain ⟨hP1, hK1, hD1⟩ := hB
  exact k r u hpost l D ca ad p e s m args below meth c H1 locs1 la hX ⟨by rw [← ht]; exact hP1, zm_D_self hD1, hS1⟩ hl
theorem zm_callVz {N : zm_M} {k0 idx n ci : Nat} {as rest : List Value} {fs : List (Option Nat)} {C : String} {T : u_T} {Nf : Nat} {Q' : Value → zm_S → Prop} (hdg : decode M.2.2.1 pc = .ok (.invokevirtual idx, 3)) (hst : st = as.reverse ++ .ref k0 :: rest) (hN : zm_Mv N n) (hlk : Cond.methodLink M.1 idx N.2.1 ∈ zm_tb) (hs : SH[k0]? = some (.inr (ci, fs))) (hcl : vwCl[ci]? = some (C, T, Nf)) (hCn : C = N.1) (hn : as.length = n) (hrm : (rest.map fun v => v.category).sum ≤ 8) (hC : zm_C SH d N (.ref k0 :: as) w Q') (hr : N.2.2.2.2 = some .boolean) (k : ∀ (r : Int32) (u : zm_S), Q' (.int r) u → zm_T SH (d + 1) M Q (pc + 3) ls (.int r :: rest) u) : zm_T SH (d + 1) M Q pc ls st w := by
  intro l D ca ad p e s m args below meth c H locs la hX hY hl
  have hsub : ∀ q, zm_A SH ad H.size q → zm_A SH ad s.heap.size q := fun q h => h.elim (fun h => Or.inl h) (fun h => Or.inr (Nat.le_trans hY.2.2.1 h))
  have hrun := va_runV (As := zm_st ad as) (rest := zm_st ad rest) (C := C) ⟨hX.1, hX.2.1, hX.2.2.1, hX.2.2.2.2.2.1, hX.2.2.2.2.2.2.1⟩ (hC l D ca ad H.size) ⟨zm_cB hN.1 hlk hX.2.2.2.2.2.2.1, hX.2.2.2.2.2.2.1 _ hN.2.1, by rw [hCn]; exact hX.2.2.2.2.2.2.1 _ hN.2.2⟩ ⟨zm_blind, va_recv hX.2.2.2.2.2.2.2.2 hY.1 hcl (zm_W_at hs), fun U hU hW => ⟨rfl, by rw [hU], by rw [hU]; exact hY.1, va_K.moved hW.alike hX.2.2.2.2.2.2.2.2, hY.2.1.weaken (fun _ _ _ _ => trivial), zm_nt_warm hW hX.2.2.2.2.2.2.2.1⟩⟩ rfl (by rw [zm_st, List.length_map]; exact hn) hl.1 (by rw [hst, zm_st_app, zm_st_rev]; rfl) (lv_room (by rw [zm_st_cat]; exact hrm)) hdg ⟨Nat.le_refl _, Nat.le_refl _⟩ (g := F0 m pc la (zm_st ad st)) (p := p) (e := e) (below := below) (meth := meth) (locs := locs) (cells := 0) (slots := 0)
  have hqq : zm_Q SH D ca ad N.2.2.2.2 Q' (zm_A SH ad H.size) = va_Qi (fun r u => Q' (.int r) u) (zm_B SH D ca ad (zm_A SH ad H.size)) (zm_A SH ad H.size) := by rw [hr]; rfl
  rw [hqq] at hrun
  refine va_calli hrun hY.2.2 (fun q _ h => hsub q h) hsub (fun r u t H1 locs1 ht hvm hpost hB hz1 hk1 hS1 => ?_)
  obtain ⟨hP1, hK1, hD1⟩ := hB
  exact k r u hpost l D ca ad p e s m args below meth c H1 locs1 la hX ⟨by rw [← ht]; exact hP1, zm_D_self hD1, hS1⟩ hl
theorem zm_callVl {N : zm_M} {k0 idx n ci : Nat} {as rest : List Value} {fs : List (Option Nat)} {C : String} {T : u_T} {Nf : Nat} {Q' : Value → zm_S → Prop} (hdg : decode M.2.2.1 pc = .ok (.invokevirtual idx, 3)) (hst : st = as.reverse ++ .ref k0 :: rest) (hN : zm_Mv N n) (hlk : Cond.methodLink M.1 idx N.2.1 ∈ zm_tb) (hs : SH[k0]? = some (.inr (ci, fs))) (hcl : vwCl[ci]? = some (C, T, Nf)) (hCn : C = N.1) (hn : as.length = n) (hrm : (rest.map fun v => v.category).sum ≤ 8) (hC : zm_C SH d N (.ref k0 :: as) w Q') (hr : N.2.2.2.2 = some .long) (k : ∀ (r : Int64) (u : zm_S), Q' (.long r) u → zm_T SH (d + 1) M Q (pc + 3) ls (.long r :: rest) u) : zm_T SH (d + 1) M Q pc ls st w := by
  intro l D ca ad p e s m args below meth c H locs la hX hY hl
  have hsub : ∀ q, zm_A SH ad H.size q → zm_A SH ad s.heap.size q := fun q h => h.elim (fun h => Or.inl h) (fun h => Or.inr (Nat.le_trans hY.2.2.1 h))
  have hrun := va_runV (As := zm_st ad as) (rest := zm_st ad rest) (C := C) ⟨hX.1, hX.2.1, hX.2.2.1, hX.2.2.2.2.2.1, hX.2.2.2.2.2.2.1⟩ (hC l D ca ad H.size) ⟨zm_cB hN.1 hlk hX.2.2.2.2.2.2.1, hX.2.2.2.2.2.2.1 _ hN.2.1, by rw [hCn]; exact hX.2.2.2.2.2.2.1 _ hN.2.2⟩ ⟨zm_blind, va_recv hX.2.2.2.2.2.2.2.2 hY.1 hcl (zm_W_at hs), fun U hU hW => ⟨rfl, by rw [hU], by rw [hU]; exact hY.1, va_K.moved hW.alike hX.2.2.2.2.2.2.2.2, hY.2.1.weaken (fun _ _ _ _ => trivial), zm_nt_warm hW hX.2.2.2.2.2.2.2.1⟩⟩ rfl (by rw [zm_st, List.length_map]; exact hn) hl.1 (by rw [hst, zm_st_app, zm_st_rev]; rfl) (lv_room (by rw [zm_st_cat]; exact hrm)) hdg ⟨Nat.le_refl _, Nat.le_refl _⟩ (g := F0 m pc la (zm_st ad st)) (p := p) (e := e) (below := below) (meth := meth) (locs := locs) (cells := 0) (slots := 0)
  have hqq : zm_Q SH D ca ad N.2.2.2.2 Q' (zm_A SH ad H.size) = va_Ql (fun r u => Q' (.long r) u) (zm_B SH D ca ad (zm_A SH ad H.size)) (zm_A SH ad H.size) := by rw [hr]; rfl
  rw [hqq] at hrun
  refine va_calll hrun hY.2.2 (fun q _ h => hsub q h) hsub (fun r u t H1 locs1 ht hvm hpost hB hz1 hk1 hS1 => ?_)
  obtain ⟨hP1, hK1, hD1⟩ := hB
  exact k r u hpost l D ca ad p e s m args below meth c H1 locs1 la hX ⟨by rw [← ht]; exact hP1, zm_D_self hD1, hS1⟩ hl
theorem zm_callSv {N : zm_M} {idx n : Nat} {as rest : List Value} {Q' : Value → zm_S → Prop} (hdg : decode M.2.2.1 pc = .ok (.invokestatic idx, 3)) (hst : st = as.reverse ++ rest) (hN : zm_Ms N n) (hlk : Cond.methodLink M.1 idx N.2.1 ∈ zm_tb) (hn : as.length = n) (hrm : (rest.map fun v => v.category).sum ≤ 8) (hC : zm_C SH d N as w Q') (hr : N.2.2.2.2 = none) (k : ∀ (u : zm_S), Q' .null u → zm_T SH (d + 1) M Q (pc + 3) ls rest u) : zm_T SH (d + 1) M Q pc ls st w := by
  intro l D ca ad p e s m args below meth c H locs la hX hY hl
  have hsub : ∀ q, zm_A SH ad H.size q → zm_A SH ad s.heap.size q := fun q h => h.elim (fun h => Or.inl h) (fun h => Or.inr (Nat.le_trans hY.2.2.1 h))
  have hrun := va_runS (As := zm_st ad as) (rest := zm_st ad rest) ⟨hX.1, hX.2.1, hX.2.2.1, hX.2.2.2.2.2.1, hX.2.2.2.2.2.2.1⟩ (hC l D ca ad H.size) ⟨zm_cB hN.1 hlk hX.2.2.2.2.2.2.1, hX.2.2.2.2.2.2.1 _ hN.2⟩ ⟨zm_blind, fun U hU hW => ⟨rfl, by rw [hU], by rw [hU]; exact hY.1, va_K.moved hW.alike hX.2.2.2.2.2.2.2.2, hY.2.1.weaken (fun _ _ _ _ => trivial), zm_nt_warm hW hX.2.2.2.2.2.2.2.1⟩⟩ rfl (by rw [zm_st, List.length_map]; exact hn) hl.1 (by rw [hst, zm_st_app, zm_st_rev]) (lv_room (by rw [zm_st_cat]; exact hrm)) hdg ⟨Nat.le_refl _, Nat.le_refl _⟩ (g := F0 m pc la (zm_st ad st)) (p := p) (e := e) (below := below) (meth := meth) (locs := locs) (cells := 0) (slots := 0)
  have hqq : zm_Q SH D ca ad N.2.2.2.2 Q' (zm_A SH ad H.size) = va_Qv (fun u => Q' .null u) (zm_B SH D ca ad (zm_A SH ad H.size)) (zm_A SH ad H.size) := by rw [hr]; rfl
  rw [hqq] at hrun
  refine va_callv hrun hY.2.2 (fun q _ h => hsub q h) hsub (fun u t H1 locs1 ht hvm hpost hB hz1 hk1 hS1 => ?_)
  obtain ⟨hP1, hK1, hD1⟩ := hB
  exact k u hpost l D ca ad p e s m args below meth c H1 locs1 la hX ⟨by rw [← ht]; exact hP1, zm_D_self hD1, hS1⟩ hl
theorem zm_callSi {N : zm_M} {idx n : Nat} {as rest : List Value} {Q' : Value → zm_S → Prop} (hdg : decode M.2.2.1 pc = .ok (.invokestatic idx, 3)) (hst : st = as.reverse ++ rest) (hN : zm_Ms N n) (hlk : Cond.methodLink M.1 idx N.2.1 ∈ zm_tb) (hn : as.length = n) (hrm : (rest.map fun v => v.category).sum ≤ 8) (hC : zm_C SH d N as w Q') (hr : N.2.2.2.2 = some .int) (k : ∀ (r : Int32) (u : zm_S), Q' (.int r) u → zm_T SH (d + 1) M Q (pc + 3) ls (.int r :: rest) u) : zm_T SH (d + 1) M Q pc ls st w := by
  intro l D ca ad p e s m args below meth c H locs la hX hY hl
  have hsub : ∀ q, zm_A SH ad H.size q → zm_A SH ad s.heap.size q := fun q h => h.elim (fun h => Or.inl h) (fun h => Or.inr (Nat.le_trans hY.2.2.1 h))
  have hrun := va_runS (As := zm_st ad as) (rest := zm_st ad rest) ⟨hX.1, hX.2.1, hX.2.2.1, hX.2.2.2.2.2.1, hX.2.2.2.2.2.2.1⟩ (hC l D ca ad H.size) ⟨zm_cB hN.1 hlk hX.2.2.2.2.2.2.1, hX.2.2.2.2.2.2.1 _ hN.2⟩ ⟨zm_blind, fun U hU hW => ⟨rfl, by rw [hU], by rw [hU]; exact hY.1, va_K.moved hW.alike hX.2.2.2.2.2.2.2.2, hY.2.1.weaken (fun _ _ _ _ => trivial), zm_nt_warm hW hX.2.2.2.2.2.2.2.1⟩⟩ rfl (by rw [zm_st, List.length_map]; exact hn) hl.1 (by rw [hst, zm_st_app, zm_st_rev]) (lv_room (by rw [zm_st_cat]; exact hrm)) hdg ⟨Nat.le_refl _, Nat.le_refl _⟩ (g := F0 m pc la (zm_st ad st)) (p := p) (e := e) (below := below) (meth := meth) (locs := locs) (cells := 0) (slots := 0)
  have hqq : zm_Q SH D ca ad N.2.2.2.2 Q' (zm_A SH ad H.size) = va_Qi (fun r u => Q' (.int r) u) (zm_B SH D ca ad (zm_A SH ad H.size)) (zm_A SH ad H.size) := by rw [hr]; rfl
  rw [hqq] at hrun
  refine va_calli hrun hY.2.2 (fun q _ h => hsub q h) hsub (fun r u t H1 locs1 ht hvm hpost hB hz1 hk1 hS1 => ?_)
  obtain ⟨hP1, hK1, hD1⟩ := hB
  exact k r u hpost l D ca ad p e s m args below meth c H1 locs1 la hX ⟨by rw [← ht]; exact hP1, zm_D_self hD1, hS1⟩ hl
theorem zm_callSz {N : zm_M} {idx n : Nat} {as rest : List Value} {Q' : Value → zm_S → Prop} (hdg : decode M.2.2.1 pc = .ok (.invokestatic idx, 3)) (hst : st = as.reverse ++ rest) (hN : zm_Ms N n) (hlk : Cond.methodLink M.1 idx N.2.1 ∈ zm_tb) (hn : as.length = n) (hrm : (rest.map fun v => v.category).sum ≤ 8) (hC : zm_C SH d N as w Q') (hr : N.2.2.2.2 = some .boolean) (k : ∀ (r : Int32) (u : zm_S), Q' (.int r) u → zm_T SH (d + 1) M Q (pc + 3) ls (.int r :: rest) u) : zm_T SH (d + 1) M Q pc ls st w := by
  intro l D ca ad p e s m args below meth c H locs la hX hY hl
  have hsub : ∀ q, zm_A SH ad H.size q → zm_A SH ad s.heap.size q := fun q h => h.elim (fun h => Or.inl h) (fun h => Or.inr (Nat.le_trans hY.2.2.1 h))
  have hrun := va_runS (As := zm_st ad as) (rest := zm_st ad rest) ⟨hX.1, hX.2.1, hX.2.2.1, hX.2.2.2.2.2.1, hX.2.2.2.2.2.2.1⟩ (hC l D ca ad H.size) ⟨zm_cB hN.1 hlk hX.2.2.2.2.2.2.1, hX.2.2.2.2.2.2.1 _ hN.2⟩ ⟨zm_blind, fun U hU hW => ⟨rfl, by rw [hU], by rw [hU]; exact hY.1, va_K.moved hW.alike hX.2.2.2.2.2.2.2.2, hY.2.1.weaken (fun _ _ _ _ => trivial), zm_nt_warm hW hX.2.2.2.2.2.2.2.1⟩⟩ rfl (by rw [zm_st, List.length_map]; exact hn) hl.1 (by rw [hst, zm_st_app, zm_st_rev]) (lv_room (by rw [zm_st_cat]; exact hrm)) hdg ⟨Nat.le_refl _, Nat.le_refl _⟩ (g := F0 m pc la (zm_st ad st)) (p := p) (e := e) (below := below) (meth := meth) (locs := locs) (cells := 0) (slots := 0)
  have hqq : zm_Q SH D ca ad N.2.2.2.2 Q' (zm_A SH ad H.size) = va_Qi (fun r u => Q' (.int r) u) (zm_B SH D ca ad (zm_A SH ad H.size)) (zm_A SH ad H.size) := by rw [hr]; rfl
  rw [hqq] at hrun
  refine va_calli hrun hY.2.2 (fun q _ h => hsub q h) hsub (fun r u t H1 locs1 ht hvm hpost hB hz1 hk1 hS1 => ?_)
  obtain ⟨hP1, hK1, hD1⟩ := hB
  exact k r u hpost l D ca ad p e s m args below meth c H1 locs1 la hX ⟨by rw [← ht]; exact hP1, zm_D_self hD1, hS1⟩ hl
theorem zm_callSl {N : zm_M} {idx n : Nat} {as rest : List Value} {Q' : Value → zm_S → Prop} (hdg : decode M.2.2.1 pc = .ok (.invokestatic idx, 3)) (hst : st = as.reverse ++ rest) (hN : zm_Ms N n) (hlk : Cond.methodLink M.1 idx N.2.1 ∈ zm_tb) (hn : as.length = n) (hrm : (rest.map fun v => v.category).sum ≤ 8) (hC : zm_C SH d N as w Q') (hr : N.2.2.2.2 = some .long) (k : ∀ (r : Int64) (u : zm_S), Q' (.long r) u → zm_T SH (d + 1) M Q (pc + 3) ls (.long r :: rest) u) : zm_T SH (d + 1) M Q pc ls st w := by
  intro l D ca ad p e s m args below meth c H locs la hX hY hl
  have hsub : ∀ q, zm_A SH ad H.size q → zm_A SH ad s.heap.size q := fun q h => h.elim (fun h => Or.inl h) (fun h => Or.inr (Nat.le_trans hY.2.2.1 h))
  have hrun := va_runS (As := zm_st ad as) (rest := zm_st ad rest) ⟨hX.1, hX.2.1, hX.2.2.1, hX.2.2.2.2.2.1, hX.2.2.2.2.2.2.1⟩ (hC l D ca ad H.size) ⟨zm_cB hN.1 hlk hX.2.2.2.2.2.2.1, hX.2.2.2.2.2.2.1 _ hN.2⟩ ⟨zm_blind, fun U hU hW => ⟨rfl, by rw [hU], by rw [hU]; exact hY.1, va_K.moved hW.alike hX.2.2.2.2.2.2.2.2, hY.2.1.weaken (fun _ _ _ _ => trivial), zm_nt_warm hW hX.2.2.2.2.2.2.2.1⟩⟩ rfl (by rw [zm_st, List.length_map]; exact hn) hl.1 (by rw [hst, zm_st_app, zm_st_rev]) (lv_room (by rw [zm_st_cat]; exact hrm)) hdg ⟨Nat.le_refl _, Nat.le_refl _⟩ (g := F0 m pc la (zm_st ad st)) (p := p) (e := e) (below := below) (meth := meth) (locs := locs) (cells := 0) (slots := 0)
  have hqq : zm_Q SH D ca ad N.2.2.2.2 Q' (zm_A SH ad H.size) = va_Ql (fun r u => Q' (.long r) u) (zm_B SH D ca ad (zm_A SH ad H.size)) (zm_A SH ad H.size) := by rw [hr]; rfl
  rw [hqq] at hrun
  refine va_calll hrun hY.2.2 (fun q _ h => hsub q h) hsub (fun r u t H1 locs1 ht hvm hpost hB hz1 hk1 hS1 => ?_)
  obtain ⟨hP1, hK1, hD1⟩ := hB
  exact k r u hpost l D ca ad p e s m args below meth c H1 locs1 la hX ⟨by rw [← ht]; exact hP1, zm_D_self hD1, hS1⟩ hl
end ZM
end
