section
-- ===== PART A: goes FIRST, ahead of the names: the tables' words, and 'selects' of the private methods out of them =====
/-- a private method of a class that the tables say can be made, by its rows of tables_1 -/
def lw_okq (q : MethodName × Nat) : Prop := (q.1.cls ≠ "java/lang/invoke/MethodHandle" ∧ q.1.cls ≠ "java/lang/invoke/VarHandle") ∧ Cond.instantiable q.1.cls q.2 ∈ tables_1 ∧ Cond.privateMethod q.1 ∈ tables_1 ∧ Cond.instanceMethod q.1 ∈ tables_1
theorem lw_p0 : lw_okq (⟨"MosaicFloor$History", "dropOldest", "()V"⟩, 2) := ⟨⟨by decide +kernel, by decide +kernel⟩, List.mem_of_getElem? (i := 157) (by decide +kernel), List.mem_of_getElem? (i := 216) (by decide +kernel), List.mem_of_getElem? (i := 217) (by decide +kernel)⟩
theorem lw_p1 : lw_okq (⟨"MosaicFloor", "changeSize", "(I)I"⟩, 4) := ⟨⟨by decide +kernel, by decide +kernel⟩, List.mem_of_getElem? (i := 13) (by decide +kernel), List.mem_of_getElem? (i := 247) (by decide +kernel), List.mem_of_getElem? (i := 248) (by decide +kernel)⟩
theorem lw_p2 : lw_okq (⟨"MosaicFloor", "changeLoss", "(I)I"⟩, 4) := ⟨⟨by decide +kernel, by decide +kernel⟩, List.mem_of_getElem? (i := 13) (by decide +kernel), List.mem_of_getElem? (i := 260) (by decide +kernel), List.mem_of_getElem? (i := 261) (by decide +kernel)⟩
theorem lw_p3 : lw_okq (⟨"MosaicFloor$Plan", "halfOfBorder", "()I"⟩, 6) := ⟨⟨by decide +kernel, by decide +kernel⟩, List.mem_of_getElem? (i := 27) (by decide +kernel), List.mem_of_getElem? (i := 324) (by decide +kernel), List.mem_of_getElem? (i := 325) (by decide +kernel)⟩
theorem lw_p4 : lw_okq (⟨"MosaicFloor$Plan", "wantedInBorder", "(I)I"⟩, 6) := ⟨⟨by decide +kernel, by decide +kernel⟩, List.mem_of_getElem? (i := 27) (by decide +kernel), List.mem_of_getElem? (i := 328) (by decide +kernel), List.mem_of_getElem? (i := 329) (by decide +kernel)⟩
theorem lw_p5 : lw_okq (⟨"MosaicFloor$Plan", "cellsOfWholePatterns", "(I)I"⟩, 6) := ⟨⟨by decide +kernel, by decide +kernel⟩, List.mem_of_getElem? (i := 27) (by decide +kernel), List.mem_of_getElem? (i := 337) (by decide +kernel), List.mem_of_getElem? (i := 338) (by decide +kernel)⟩
theorem lw_p6 : lw_okq (⟨"MosaicFloor", "countOfPlan", "(I)I"⟩, 4) := ⟨⟨by decide +kernel, by decide +kernel⟩, List.mem_of_getElem? (i := 13) (by decide +kernel), List.mem_of_getElem? (i := 364) (by decide +kernel), List.mem_of_getElem? (i := 365) (by decide +kernel)⟩
theorem lw_p7 : lw_okq (⟨"MosaicFloor$Plan", "patternHasOneShade", "()Z"⟩, 6) := ⟨⟨by decide +kernel, by decide +kernel⟩, List.mem_of_getElem? (i := 27) (by decide +kernel), List.mem_of_getElem? (i := 376) (by decide +kernel), List.mem_of_getElem? (i := 377) (by decide +kernel)⟩
theorem lw_p8 : lw_okq (⟨"MosaicFloor", "countOfWork", "(I)I"⟩, 4) := ⟨⟨by decide +kernel, by decide +kernel⟩, List.mem_of_getElem? (i := 13) (by decide +kernel), List.mem_of_getElem? (i := 381) (by decide +kernel), List.mem_of_getElem? (i := 382) (by decide +kernel)⟩
theorem lw_p9 : lw_okq (⟨"MosaicFloor", "account", "(I)I"⟩, 4) := ⟨⟨by decide +kernel, by decide +kernel⟩, List.mem_of_getElem? (i := 13) (by decide +kernel), List.mem_of_getElem? (i := 402) (by decide +kernel), List.mem_of_getElem? (i := 403) (by decide +kernel)⟩
theorem lw_p10 : lw_okq (⟨"MosaicFloor$Stock", "atHandOf", "(I)I"⟩, 9) := ⟨⟨by decide +kernel, by decide +kernel⟩, List.mem_of_getElem? (i := 66) (by decide +kernel), List.mem_of_getElem? (i := 525) (by decide +kernel), List.mem_of_getElem? (i := 526) (by decide +kernel)⟩
theorem lw_p11 : lw_okq (⟨"MosaicFloor$Stock", "firstStripGivingOrNull", "(I)LMosaicFloor$Strip;"⟩, 9) := ⟨⟨by decide +kernel, by decide +kernel⟩, List.mem_of_getElem? (i := 66) (by decide +kernel), List.mem_of_getElem? (i := 529) (by decide +kernel), List.mem_of_getElem? (i := 530) (by decide +kernel)⟩
theorem lw_p12 : lw_okq (⟨"MosaicFloor$State", "putAt", "(III)V"⟩, 4) := ⟨⟨by decide +kernel, by decide +kernel⟩, List.mem_of_getElem? (i := 21) (by decide +kernel), List.mem_of_getElem? (i := 539) (by decide +kernel), List.mem_of_getElem? (i := 540) (by decide +kernel)⟩
theorem lw_p13 : lw_okq (⟨"MosaicFloorModel", "beginWith", "(II)V"⟩, 8) := ⟨⟨by decide +kernel, by decide +kernel⟩, List.mem_of_getElem? (i := 621) (by decide +kernel), List.mem_of_getElem? (i := 627) (by decide +kernel), List.mem_of_getElem? (i := 628) (by decide +kernel)⟩
theorem lw_p14 : lw_okq (⟨"MosaicFloorModel", "laidCells", "()I"⟩, 8) := ⟨⟨by decide +kernel, by decide +kernel⟩, List.mem_of_getElem? (i := 621) (by decide +kernel), List.mem_of_getElem? (i := 663) (by decide +kernel), List.mem_of_getElem? (i := 664) (by decide +kernel)⟩
theorem lw_p15 : lw_okq (⟨"MosaicFloorModel", "cells", "()I"⟩, 8) := ⟨⟨by decide +kernel, by decide +kernel⟩, List.mem_of_getElem? (i := 621) (by decide +kernel), List.mem_of_getElem? (i := 667) (by decide +kernel), List.mem_of_getElem? (i := 668) (by decide +kernel)⟩
def lw_privs_1 : List (MethodName × Nat) := [(⟨"MosaicFloor$History", "dropOldest", "()V"⟩, 2), (⟨"MosaicFloor", "changeSize", "(I)I"⟩, 4), (⟨"MosaicFloor", "changeLoss", "(I)I"⟩, 4), (⟨"MosaicFloor$Plan", "halfOfBorder", "()I"⟩, 6), (⟨"MosaicFloor$Plan", "wantedInBorder", "(I)I"⟩, 6), (⟨"MosaicFloor$Plan", "cellsOfWholePatterns", "(I)I"⟩, 6), (⟨"MosaicFloor", "countOfPlan", "(I)I"⟩, 4), (⟨"MosaicFloor$Plan", "patternHasOneShade", "()Z"⟩, 6), (⟨"MosaicFloor", "countOfWork", "(I)I"⟩, 4), (⟨"MosaicFloor", "account", "(I)I"⟩, 4), (⟨"MosaicFloor$Stock", "atHandOf", "(I)I"⟩, 9), (⟨"MosaicFloor$Stock", "firstStripGivingOrNull", "(I)LMosaicFloor$Strip;"⟩, 9), (⟨"MosaicFloor$State", "putAt", "(III)V"⟩, 4), (⟨"MosaicFloorModel", "beginWith", "(II)V"⟩, 8), (⟨"MosaicFloorModel", "laidCells", "()I"⟩, 8), (⟨"MosaicFloorModel", "cells", "()I"⟩, 8)]
theorem lw_r1 : ∀ q ∈ lw_privs_1, lw_okq q := List.forall_mem_cons.mpr ⟨lw_p0, List.forall_mem_cons.mpr ⟨lw_p1, List.forall_mem_cons.mpr ⟨lw_p2, List.forall_mem_cons.mpr ⟨lw_p3, List.forall_mem_cons.mpr ⟨lw_p4, List.forall_mem_cons.mpr ⟨lw_p5, List.forall_mem_cons.mpr ⟨lw_p6, List.forall_mem_cons.mpr ⟨lw_p7, List.forall_mem_cons.mpr ⟨lw_p8, List.forall_mem_cons.mpr ⟨lw_p9, List.forall_mem_cons.mpr ⟨lw_p10, List.forall_mem_cons.mpr ⟨lw_p11, List.forall_mem_cons.mpr ⟨lw_p12, List.forall_mem_cons.mpr ⟨lw_p13, List.forall_mem_cons.mpr ⟨lw_p14, List.forall_mem_cons.mpr ⟨lw_p15, fun _ h => absurd h List.not_mem_nil⟩⟩⟩⟩⟩⟩⟩⟩⟩⟩⟩⟩⟩⟩⟩⟩
theorem lw_p16 : lw_okq (⟨"MosaicFloorModel", "keep", "()V"⟩, 8) := ⟨⟨by decide +kernel, by decide +kernel⟩, List.mem_of_getElem? (i := 621) (by decide +kernel), List.mem_of_getElem? (i := 671) (by decide +kernel), List.mem_of_getElem? (i := 672) (by decide +kernel)⟩
theorem lw_p17 : lw_okq (⟨"MosaicFloorModel", "atHand", "()I"⟩, 8) := ⟨⟨by decide +kernel, by decide +kernel⟩, List.mem_of_getElem? (i := 621) (by decide +kernel), List.mem_of_getElem? (i := 682) (by decide +kernel), List.mem_of_getElem? (i := 683) (by decide +kernel)⟩
theorem lw_p18 : lw_okq (⟨"MosaicFloorModel", "isCell", "(II)Z"⟩, 8) := ⟨⟨by decide +kernel, by decide +kernel⟩, List.mem_of_getElem? (i := 621) (by decide +kernel), List.mem_of_getElem? (i := 694) (by decide +kernel), List.mem_of_getElem? (i := 695) (by decide +kernel)⟩
theorem lw_p19 : lw_okq (⟨"MosaicFloorModel", "borderOf", "(II)I"⟩, 8) := ⟨⟨by decide +kernel, by decide +kernel⟩, List.mem_of_getElem? (i := 621) (by decide +kernel), List.mem_of_getElem? (i := 698) (by decide +kernel), List.mem_of_getElem? (i := 699) (by decide +kernel)⟩
theorem lw_p20 : lw_okq (⟨"MosaicFloorModel", "cellOf", "(III)I"⟩, 8) := ⟨⟨by decide +kernel, by decide +kernel⟩, List.mem_of_getElem? (i := 621) (by decide +kernel), List.mem_of_getElem? (i := 706) (by decide +kernel), List.mem_of_getElem? (i := 707) (by decide +kernel)⟩
theorem lw_p21 : lw_okq (⟨"MosaicFloorModel", "wanted", "(I)I"⟩, 8) := ⟨⟨by decide +kernel, by decide +kernel⟩, List.mem_of_getElem? (i := 621) (by decide +kernel), List.mem_of_getElem? (i := 710) (by decide +kernel), List.mem_of_getElem? (i := 711) (by decide +kernel)⟩
theorem lw_p22 : lw_okq (⟨"MosaicFloorModel", "borderWants", "(I)I"⟩, 8) := ⟨⟨by decide +kernel, by decide +kernel⟩, List.mem_of_getElem? (i := 621) (by decide +kernel), List.mem_of_getElem? (i := 714) (by decide +kernel), List.mem_of_getElem? (i := 715) (by decide +kernel)⟩
theorem lw_p23 : lw_okq (⟨"MosaicFloorModel", "difference", "(I)I"⟩, 8) := ⟨⟨by decide +kernel, by decide +kernel⟩, List.mem_of_getElem? (i := 621) (by decide +kernel), List.mem_of_getElem? (i := 721) (by decide +kernel), List.mem_of_getElem? (i := 722) (by decide +kernel)⟩
theorem lw_p24 : lw_okq (⟨"MosaicFloorModel", "around", "()I"⟩, 8) := ⟨⟨by decide +kernel, by decide +kernel⟩, List.mem_of_getElem? (i := 621) (by decide +kernel), List.mem_of_getElem? (i := 732) (by decide +kernel), List.mem_of_getElem? (i := 733) (by decide +kernel)⟩
theorem lw_p25 : lw_okq (⟨"MosaicFloorModel", "meets", "()Z"⟩, 8) := ⟨⟨by decide +kernel, by decide +kernel⟩, List.mem_of_getElem? (i := 621) (by decide +kernel), List.mem_of_getElem? (i := 736) (by decide +kernel), List.mem_of_getElem? (i := 737) (by decide +kernel)⟩
theorem lw_p26 : lw_okq (⟨"MosaicFloorModel", "differences", "(Z)I"⟩, 8) := ⟨⟨by decide +kernel, by decide +kernel⟩, List.mem_of_getElem? (i := 621) (by decide +kernel), List.mem_of_getElem? (i := 740) (by decide +kernel), List.mem_of_getElem? (i := 741) (by decide +kernel)⟩
theorem lw_p27 : lw_okq (⟨"MosaicFloorModel", "account", "(I)I"⟩, 8) := ⟨⟨by decide +kernel, by decide +kernel⟩, List.mem_of_getElem? (i := 621) (by decide +kernel), List.mem_of_getElem? (i := 744) (by decide +kernel), List.mem_of_getElem? (i := 745) (by decide +kernel)⟩
theorem lw_p28 : lw_okq (⟨"MosaicFloorModel", "of", "(II)I"⟩, 8) := ⟨⟨by decide +kernel, by decide +kernel⟩, List.mem_of_getElem? (i := 621) (by decide +kernel), List.mem_of_getElem? (i := 748) (by decide +kernel), List.mem_of_getElem? (i := 749) (by decide +kernel)⟩
theorem lw_p29 : lw_okq (⟨"MosaicFloorModel", "left", "(I)I"⟩, 8) := ⟨⟨by decide +kernel, by decide +kernel⟩, List.mem_of_getElem? (i := 621) (by decide +kernel), List.mem_of_getElem? (i := 752) (by decide +kernel), List.mem_of_getElem? (i := 753) (by decide +kernel)⟩
theorem lw_p30 : lw_okq (⟨"MosaicFloorModel", "put", "(III)V"⟩, 8) := ⟨⟨by decide +kernel, by decide +kernel⟩, List.mem_of_getElem? (i := 621) (by decide +kernel), List.mem_of_getElem? (i := 768) (by decide +kernel), List.mem_of_getElem? (i := 769) (by decide +kernel)⟩
theorem lw_p31 : lw_okq (⟨"MosaicFloorModel", "isStrip", "(I)Z"⟩, 8) := ⟨⟨by decide +kernel, by decide +kernel⟩, List.mem_of_getElem? (i := 621) (by decide +kernel), List.mem_of_getElem? (i := 776) (by decide +kernel), List.mem_of_getElem? (i := 777) (by decide +kernel)⟩
def lw_privs_2 : List (MethodName × Nat) := [(⟨"MosaicFloorModel", "keep", "()V"⟩, 8), (⟨"MosaicFloorModel", "atHand", "()I"⟩, 8), (⟨"MosaicFloorModel", "isCell", "(II)Z"⟩, 8), (⟨"MosaicFloorModel", "borderOf", "(II)I"⟩, 8), (⟨"MosaicFloorModel", "cellOf", "(III)I"⟩, 8), (⟨"MosaicFloorModel", "wanted", "(I)I"⟩, 8), (⟨"MosaicFloorModel", "borderWants", "(I)I"⟩, 8), (⟨"MosaicFloorModel", "difference", "(I)I"⟩, 8), (⟨"MosaicFloorModel", "around", "()I"⟩, 8), (⟨"MosaicFloorModel", "meets", "()Z"⟩, 8), (⟨"MosaicFloorModel", "differences", "(Z)I"⟩, 8), (⟨"MosaicFloorModel", "account", "(I)I"⟩, 8), (⟨"MosaicFloorModel", "of", "(II)I"⟩, 8), (⟨"MosaicFloorModel", "left", "(I)I"⟩, 8), (⟨"MosaicFloorModel", "put", "(III)V"⟩, 8), (⟨"MosaicFloorModel", "isStrip", "(I)Z"⟩, 8)]
theorem lw_r2 : ∀ q ∈ lw_privs_2, lw_okq q := List.forall_mem_cons.mpr ⟨lw_p16, List.forall_mem_cons.mpr ⟨lw_p17, List.forall_mem_cons.mpr ⟨lw_p18, List.forall_mem_cons.mpr ⟨lw_p19, List.forall_mem_cons.mpr ⟨lw_p20, List.forall_mem_cons.mpr ⟨lw_p21, List.forall_mem_cons.mpr ⟨lw_p22, List.forall_mem_cons.mpr ⟨lw_p23, List.forall_mem_cons.mpr ⟨lw_p24, List.forall_mem_cons.mpr ⟨lw_p25, List.forall_mem_cons.mpr ⟨lw_p26, List.forall_mem_cons.mpr ⟨lw_p27, List.forall_mem_cons.mpr ⟨lw_p28, List.forall_mem_cons.mpr ⟨lw_p29, List.forall_mem_cons.mpr ⟨lw_p30, List.forall_mem_cons.mpr ⟨lw_p31, fun _ h => absurd h List.not_mem_nil⟩⟩⟩⟩⟩⟩⟩⟩⟩⟩⟩⟩⟩⟩⟩⟩
theorem lw_p32 : lw_okq (⟨"MosaicFloorModel", "hasFlaw", "(III)Z"⟩, 8) := ⟨⟨by decide +kernel, by decide +kernel⟩, List.mem_of_getElem? (i := 621) (by decide +kernel), List.mem_of_getElem? (i := 780) (by decide +kernel), List.mem_of_getElem? (i := 781) (by decide +kernel)⟩
theorem lw_p33 : lw_okq (⟨"MosaicFloorModel", "canCut", "(I)Z"⟩, 8) := ⟨⟨by decide +kernel, by decide +kernel⟩, List.mem_of_getElem? (i := 621) (by decide +kernel), List.mem_of_getElem? (i := 788) (by decide +kernel), List.mem_of_getElem? (i := 789) (by decide +kernel)⟩
theorem lw_p34 : lw_okq (⟨"MosaicFloorModel", "cuts", "(I)Z"⟩, 8) := ⟨⟨by decide +kernel, by decide +kernel⟩, List.mem_of_getElem? (i := 621) (by decide +kernel), List.mem_of_getElem? (i := 792) (by decide +kernel), List.mem_of_getElem? (i := 793) (by decide +kernel)⟩
theorem lw_p35 : lw_okq (⟨"MosaicFloorModel", "partOf", "(II)I"⟩, 8) := ⟨⟨by decide +kernel, by decide +kernel⟩, List.mem_of_getElem? (i := 621) (by decide +kernel), List.mem_of_getElem? (i := 800) (by decide +kernel), List.mem_of_getElem? (i := 801) (by decide +kernel)⟩
theorem lw_p36 : lw_okq (⟨"MosaicFloorModel", "still", "(IZ)I"⟩, 8) := ⟨⟨by decide +kernel, by decide +kernel⟩, List.mem_of_getElem? (i := 621) (by decide +kernel), List.mem_of_getElem? (i := 804) (by decide +kernel), List.mem_of_getElem? (i := 805) (by decide +kernel)⟩
theorem lw_p37 : lw_okq (⟨"MosaicFloorModel", "nearestTo", "(I)I"⟩, 8) := ⟨⟨by decide +kernel, by decide +kernel⟩, List.mem_of_getElem? (i := 621) (by decide +kernel), List.mem_of_getElem? (i := 812) (by decide +kernel), List.mem_of_getElem? (i := 813) (by decide +kernel)⟩
theorem lw_p38 : lw_okq (⟨"MosaicFloorModel", "source", "(I)I"⟩, 8) := ⟨⟨by decide +kernel, by decide +kernel⟩, List.mem_of_getElem? (i := 621) (by decide +kernel), List.mem_of_getElem? (i := 816) (by decide +kernel), List.mem_of_getElem? (i := 817) (by decide +kernel)⟩
theorem lw_p39 : lw_okq (⟨"MosaicFloorModel", "lays", "(I)I"⟩, 8) := ⟨⟨by decide +kernel, by decide +kernel⟩, List.mem_of_getElem? (i := 621) (by decide +kernel), List.mem_of_getElem? (i := 820) (by decide +kernel), List.mem_of_getElem? (i := 821) (by decide +kernel)⟩
theorem lw_p40 : lw_okq (⟨"MosaicFloorModel", "laysAll", "()I"⟩, 8) := ⟨⟨by decide +kernel, by decide +kernel⟩, List.mem_of_getElem? (i := 621) (by decide +kernel), List.mem_of_getElem? (i := 828) (by decide +kernel), List.mem_of_getElem? (i := 829) (by decide +kernel)⟩
theorem lw_p41 : lw_okq (⟨"MosaicFloorModel", "laysIfEmpty", "(I)I"⟩, 8) := ⟨⟨by decide +kernel, by decide +kernel⟩, List.mem_of_getElem? (i := 621) (by decide +kernel), List.mem_of_getElem? (i := 832) (by decide +kernel), List.mem_of_getElem? (i := 833) (by decide +kernel)⟩
theorem lw_p42 : lw_okq (⟨"MosaicFloorModel", "readyOf", "(I)I"⟩, 8) := ⟨⟨by decide +kernel, by decide +kernel⟩, List.mem_of_getElem? (i := 621) (by decide +kernel), List.mem_of_getElem? (i := 848) (by decide +kernel), List.mem_of_getElem? (i := 849) (by decide +kernel)⟩
theorem lw_p43 : lw_okq (⟨"MosaicFloorModel", "lacksOf", "(I)I"⟩, 8) := ⟨⟨by decide +kernel, by decide +kernel⟩, List.mem_of_getElem? (i := 621) (by decide +kernel), List.mem_of_getElem? (i := 856) (by decide +kernel), List.mem_of_getElem? (i := 857) (by decide +kernel)⟩
theorem lw_p44 : lw_okq (⟨"MosaicFloorModel", "faultNow", "()I"⟩, 8) := ⟨⟨by decide +kernel, by decide +kernel⟩, List.mem_of_getElem? (i := 621) (by decide +kernel), List.mem_of_getElem? (i := 880) (by decide +kernel), List.mem_of_getElem? (i := 881) (by decide +kernel)⟩
def lw_privs_3 : List (MethodName × Nat) := [(⟨"MosaicFloorModel", "hasFlaw", "(III)Z"⟩, 8), (⟨"MosaicFloorModel", "canCut", "(I)Z"⟩, 8), (⟨"MosaicFloorModel", "cuts", "(I)Z"⟩, 8), (⟨"MosaicFloorModel", "partOf", "(II)I"⟩, 8), (⟨"MosaicFloorModel", "still", "(IZ)I"⟩, 8), (⟨"MosaicFloorModel", "nearestTo", "(I)I"⟩, 8), (⟨"MosaicFloorModel", "source", "(I)I"⟩, 8), (⟨"MosaicFloorModel", "lays", "(I)I"⟩, 8), (⟨"MosaicFloorModel", "laysAll", "()I"⟩, 8), (⟨"MosaicFloorModel", "laysIfEmpty", "(I)I"⟩, 8), (⟨"MosaicFloorModel", "readyOf", "(I)I"⟩, 8), (⟨"MosaicFloorModel", "lacksOf", "(I)I"⟩, 8), (⟨"MosaicFloorModel", "faultNow", "()I"⟩, 8)]
theorem lw_r3 : ∀ q ∈ lw_privs_3, lw_okq q := List.forall_mem_cons.mpr ⟨lw_p32, List.forall_mem_cons.mpr ⟨lw_p33, List.forall_mem_cons.mpr ⟨lw_p34, List.forall_mem_cons.mpr ⟨lw_p35, List.forall_mem_cons.mpr ⟨lw_p36, List.forall_mem_cons.mpr ⟨lw_p37, List.forall_mem_cons.mpr ⟨lw_p38, List.forall_mem_cons.mpr ⟨lw_p39, List.forall_mem_cons.mpr ⟨lw_p40, List.forall_mem_cons.mpr ⟨lw_p41, List.forall_mem_cons.mpr ⟨lw_p42, List.forall_mem_cons.mpr ⟨lw_p43, List.forall_mem_cons.mpr ⟨lw_p44, fun _ h => absurd h List.not_mem_nil⟩⟩⟩⟩⟩⟩⟩⟩⟩⟩⟩⟩⟩
def lw_privs : List (MethodName × Nat) := lw_privs_1 ++ (lw_privs_2 ++ (lw_privs_3))
def lw_tbl : List Cond := k2_sels lw_privs ++ tables_1
theorem lw_privs_ok : ∀ q ∈ lw_privs, lw_okq q := by
  show ∀ q ∈ lw_privs_1 ++ (lw_privs_2 ++ (lw_privs_3)), lw_okq q
  exact List.forall_mem_append.mpr ⟨lw_r1, List.forall_mem_append.mpr ⟨lw_r2, lw_r3⟩⟩

-- names, field tables (as the task prints them)
def RX0 : String := "MosaicFloor$History"
def TX0 : u_T := fun k => match k with
  | 0 => ("MosaicFloor$History", "states", "[LMosaicFloor$State;", true)
  | _ => ("MosaicFloor$History", "used", "I", false)
def tyX0 : Nat → FieldType := fun k => match k with
  | 0 => .array (.object "MosaicFloor$State")
  | _ => .int
abbrev wsX00 : List Cond := u_ws RX0 TX0 2
theorem nmX0 : ∀ a, a < 2 → ∀ b, b < 2 → a ≠ b → (TX0 a).2.1 ≠ (TX0 b).2.1 := by decide +kernel
theorem tyX0_ok : ∀ k, k < 2 → parseFieldDescriptor (TX0 k).2.2.1 = some (tyX0 k) := by decide +kernel
abbrev cX0_init : ByteArray := prog_2_method_1_code
def yX0_init : MethodName := ⟨RX0, "<init>", "()V"⟩
abbrev cX0_states : ByteArray := prog_2_method_2_code
def yX0_states : MethodName := ⟨RX0, "states", "()I"⟩
abbrev cX0_keep : ByteArray := prog_2_method_3_code
def yX0_keep : MethodName := ⟨RX0, "keep", "(LMosaicFloor$State;)V"⟩
abbrev cX0_dropOldest : ByteArray := prog_2_method_4_code
def yX0_dropOldest : MethodName := ⟨RX0, "dropOldest", "()V"⟩
abbrev cX0_restore : ByteArray := prog_2_method_5_code
def yX0_restore : MethodName := ⟨RX0, "restore", "(LMosaicFloor$State;)V"⟩
def RX1 : String := "MosaicFloor$Plan"
def TX1 : u_T := fun k => match k with
  | 0 => ("MosaicFloor$Plan", "fieldShades", "[I", true)
  | 1 => ("MosaicFloor$Plan", "patternShades", "[I", true)
  | 2 => ("MosaicFloor$Plan", "patternLength", "I", false)
  | 3 => ("MosaicFloor$Plan", "way", "I", false)
  | 4 => ("MosaicFloor$Plan", "columns", "I", false)
  | _ => ("MosaicFloor$Plan", "rows", "I", false)
def tyX1 : Nat → FieldType := fun k => match k with
  | 0 => .array .int
  | 1 => .array .int
  | 2 => .int
  | 3 => .int
  | 4 => .int
  | _ => .int
abbrev wsX10 : List Cond := u_ws RX1 TX1 6
theorem nmX1 : ∀ a, a < 6 → ∀ b, b < 6 → a ≠ b → (TX1 a).2.1 ≠ (TX1 b).2.1 := by decide +kernel
theorem tyX1_ok : ∀ k, k < 6 → parseFieldDescriptor (TX1 k).2.2.1 = some (tyX1 k) := by decide +kernel
abbrev cX1_init : ByteArray := prog_3_method_1_code
def yX1_init : MethodName := ⟨RX1, "<init>", "()V"⟩
abbrev cX1_begin : ByteArray := prog_3_method_2_code
def yX1_begin : MethodName := ⟨RX1, "begin", "(II)V"⟩
abbrev cX1_copyFrom : ByteArray := prog_3_method_3_code
def yX1_copyFrom : MethodName := ⟨RX1, "copyFrom", "(LMosaicFloor$Plan;)V"⟩
abbrev cX1_takePattern : ByteArray := prog_3_method_4_code
def yX1_takePattern : MethodName := ⟨RX1, "takePattern", "(LMosaicFloor$Text;)I"⟩
abbrev cX1_hasCell : ByteArray := prog_3_method_5_code
def yX1_hasCell : MethodName := ⟨RX1, "hasCell", "(II)Z"⟩
abbrev cX1_isBorder : ByteArray := prog_3_method_6_code
def yX1_isBorder : MethodName := ⟨RX1, "isBorder", "(II)Z"⟩
abbrev cX1_borderCells : ByteArray := prog_3_method_7_code
def yX1_borderCells : MethodName := ⟨RX1, "borderCells", "()I"⟩
abbrev cX1_halfOfBorder : ByteArray := prog_3_method_8_code
def yX1_halfOfBorder : MethodName := ⟨RX1, "halfOfBorder", "()I"⟩
abbrev cX1_borderNumberAt : ByteArray := prog_3_method_9_code
def yX1_borderNumberAt : MethodName := ⟨RX1, "borderNumberAt", "(II)I"⟩
abbrev cX1_columnOf : ByteArray := prog_3_method_10_code
def yX1_columnOf : MethodName := ⟨RX1, "columnOf", "(I)I"⟩
abbrev cX1_rowOf : ByteArray := prog_3_method_11_code
def yX1_rowOf : MethodName := ⟨RX1, "rowOf", "(I)I"⟩
abbrev cX1_wantedAt : ByteArray := prog_3_method_12_code
def yX1_wantedAt : MethodName := ⟨RX1, "wantedAt", "(II)I"⟩
abbrev cX1_wantInField : ByteArray := prog_3_method_13_code
def yX1_wantInField : MethodName := ⟨RX1, "wantInField", "(III)V"⟩
abbrev cX1_wantedInBorder : ByteArray := prog_3_method_14_code
def yX1_wantedInBorder : MethodName := ⟨RX1, "wantedInBorder", "(I)I"⟩
abbrev cX1_cellsOfWholePatterns : ByteArray := prog_3_method_15_code
def yX1_cellsOfWholePatterns : MethodName := ⟨RX1, "cellsOfWholePatterns", "(I)I"⟩
abbrev cX1_patternShade : ByteArray := prog_3_method_16_code
def yX1_patternShade : MethodName := ⟨RX1, "patternShade", "(I)I"⟩
abbrev cX1_borderMeets : ByteArray := prog_3_method_17_code
def yX1_borderMeets : MethodName := ⟨RX1, "borderMeets", "()Z"⟩
abbrev cX1_patternHasOneShade : ByteArray := prog_3_method_18_code
def yX1_patternHasOneShade : MethodName := ⟨RX1, "patternHasOneShade", "()Z"⟩
def RX2 : String := "MosaicFloor$State"
def TX2 : u_T := fun k => match k with
  | 0 => ("MosaicFloor$State", "plan", "LMosaicFloor$Plan;", true)
  | 1 => ("MosaicFloor$State", "stock", "LMosaicFloor$Stock;", true)
  | 2 => ("MosaicFloor$State", "laid", "[I", true)
  | _ => ("MosaicFloor$State", "liftedCount", "I", false)
def tyX2 : Nat → FieldType := fun k => match k with
  | 0 => .object "MosaicFloor$Plan"
  | 1 => .object "MosaicFloor$Stock"
  | 2 => .array .int
  | _ => .int
abbrev wsX20 : List Cond := u_ws RX2 TX2 4
theorem nmX2 : ∀ a, a < 4 → ∀ b, b < 4 → a ≠ b → (TX2 a).2.1 ≠ (TX2 b).2.1 := by decide +kernel
theorem tyX2_ok : ∀ k, k < 4 → parseFieldDescriptor (TX2 k).2.2.1 = some (tyX2 k) := by decide +kernel
abbrev cX2_init : ByteArray := prog_4_method_1_code
def yX2_init : MethodName := ⟨RX2, "<init>", "()V"⟩
abbrev cX2_copyFrom : ByteArray := prog_4_method_2_code
def yX2_copyFrom : MethodName := ⟨RX2, "copyFrom", "(LMosaicFloor$State;)V"⟩
abbrev cX2_laidOrNone : ByteArray := prog_4_method_3_code
def yX2_laidOrNone : MethodName := ⟨RX2, "laidOrNone", "(II)I"⟩
abbrev cX2_putAt : ByteArray := prog_4_method_4_code
def yX2_putAt : MethodName := ⟨RX2, "putAt", "(III)V"⟩
abbrev cX2_isLaid : ByteArray := prog_4_method_5_code
def yX2_isLaid : MethodName := ⟨RX2, "isLaid", "(II)Z"⟩
abbrev cX2_differenceAt : ByteArray := prog_4_method_6_code
def yX2_differenceAt : MethodName := ⟨RX2, "differenceAt", "(II)I"⟩
abbrev cX2_laidCells : ByteArray := prog_4_method_7_code
def yX2_laidCells : MethodName := ⟨RX2, "laidCells", "()I"⟩
abbrev cX2_sumOfDifferences : ByteArray := prog_4_method_8_code
def yX2_sumOfDifferences : MethodName := ⟨RX2, "sumOfDifferences", "()I"⟩
abbrev cX2_greatestDifference : ByteArray := prog_4_method_9_code
def yX2_greatestDifference : MethodName := ⟨RX2, "greatestDifference", "()I"⟩
abbrev cX2_shadeForOrNone : ByteArray := prog_4_method_10_code
def yX2_shadeForOrNone : MethodName := ⟨RX2, "shadeForOrNone", "(II)I"⟩
abbrev cX2_layCellIfPossible : ByteArray := prog_4_method_11_code
def yX2_layCellIfPossible : MethodName := ⟨RX2, "layCellIfPossible", "(II)V"⟩
abbrev cX2_layEmptyCells : ByteArray := prog_4_method_12_code
def yX2_layEmptyCells : MethodName := ⟨RX2, "layEmptyCells", "()I"⟩
abbrev cX2_liftToHand : ByteArray := prog_4_method_13_code
def yX2_liftToHand : MethodName := ⟨RX2, "liftToHand", "(II)Z"⟩
abbrev cX2_lackOf : ByteArray := prog_4_method_14_code
def yX2_lackOf : MethodName := ⟨RX2, "lackOf", "(I)I"⟩
def RX3 : String := "MosaicFloor$Stock"
def TX3 : u_T := fun k => match k with
  | 0 => ("MosaicFloor$Stock", "strips", "[LMosaicFloor$Strip;", true)
  | 1 => ("MosaicFloor$Stock", "atHand", "[I", true)
  | 2 => ("MosaicFloor$Stock", "stripCount", "I", false)
  | 3 => ("MosaicFloor$Stock", "size", "I", false)
  | 4 => ("MosaicFloor$Stock", "loss", "I", false)
  | 5 => ("MosaicFloor$Stock", "brokenCount", "I", false)
  | 6 => ("MosaicFloor$Stock", "brokenLength", "I", false)
  | 7 => ("MosaicFloor$Stock", "sawnLength", "I", false)
  | _ => ("MosaicFloor$Stock", "thrownLength", "I", false)
def tyX3 : Nat → FieldType := fun k => match k with
  | 0 => .array (.object "MosaicFloor$Strip")
  | 1 => .array .int
  | 2 => .int
  | 3 => .int
  | 4 => .int
  | 5 => .int
  | 6 => .int
  | 7 => .int
  | _ => .int
abbrev wsX30 : List Cond := u_ws RX3 TX3 9
theorem nmX3 : ∀ a, a < 9 → ∀ b, b < 9 → a ≠ b → (TX3 a).2.1 ≠ (TX3 b).2.1 := by decide +kernel
theorem tyX3_ok : ∀ k, k < 9 → parseFieldDescriptor (TX3 k).2.2.1 = some (tyX3 k) := by decide +kernel
abbrev cX3_init : ByteArray := prog_5_method_1_code
def yX3_init : MethodName := ⟨RX3, "<init>", "()V"⟩
abbrev cX3_copyFrom : ByteArray := prog_5_method_2_code
def yX3_copyFrom : MethodName := ⟨RX3, "copyFrom", "(LMosaicFloor$Stock;)V"⟩
abbrev cX3_addStrip : ByteArray := prog_5_method_3_code
def yX3_addStrip : MethodName := ⟨RX3, "addStrip", "(II)I"⟩
abbrev cX3_stripOrNull : ByteArray := prog_5_method_4_code
def yX3_stripOrNull : MethodName := ⟨RX3, "stripOrNull", "(I)LMosaicFloor$Strip;"⟩
abbrev cX3_lengthOfStrips : ByteArray := prog_5_method_5_code
def yX3_lengthOfStrips : MethodName := ⟨RX3, "lengthOfStrips", "()I"⟩
abbrev cX3_leftOfStrips : ByteArray := prog_5_method_6_code
def yX3_leftOfStrips : MethodName := ⟨RX3, "leftOfStrips", "()I"⟩
abbrev cX3_tesseraeAtHand : ByteArray := prog_5_method_7_code
def yX3_tesseraeAtHand : MethodName := ⟨RX3, "tesseraeAtHand", "()I"⟩
abbrev cX3_atHandOf : ByteArray := prog_5_method_8_code
def yX3_atHandOf : MethodName := ⟨RX3, "atHandOf", "(I)I"⟩
abbrev cX3_putAtHand : ByteArray := prog_5_method_9_code
def yX3_putAtHand : MethodName := ⟨RX3, "putAtHand", "(I)V"⟩
abbrev cX3_takeFromHand : ByteArray := prog_5_method_10_code
def yX3_takeFromHand : MethodName := ⟨RX3, "takeFromHand", "(I)V"⟩
abbrev cX3_addBroken : ByteArray := prog_5_method_11_code
def yX3_addBroken : MethodName := ⟨RX3, "addBroken", "()V"⟩
abbrev cX3_throwAway : ByteArray := prog_5_method_12_code
def yX3_throwAway : MethodName := ⟨RX3, "throwAway", "()V"⟩
abbrev cX3_readyOf : ByteArray := prog_5_method_13_code
def yX3_readyOf : MethodName := ⟨RX3, "readyOf", "(I)I"⟩
abbrev cX3_nearestShadeOrNone : ByteArray := prog_5_method_14_code
def yX3_nearestShadeOrNone : MethodName := ⟨RX3, "nearestShadeOrNone", "(I)I"⟩
abbrev cX3_nearer : ByteArray := prog_5_method_15_code
def yX3_nearer : MethodName := ⟨RX3, "nearer", "(III)I"⟩
abbrev cX3_bringToHand : ByteArray := prog_5_method_16_code
def yX3_bringToHand : MethodName := ⟨RX3, "bringToHand", "(I)V"⟩
abbrev cX3_firstStripGivingOrNull : ByteArray := prog_5_method_17_code
def yX3_firstStripGivingOrNull : MethodName := ⟨RX3, "firstStripGivingOrNull", "(I)LMosaicFloor$Strip;"⟩
abbrev cX3_cutFrom : ByteArray := prog_5_method_18_code
def yX3_cutFrom : MethodName := ⟨RX3, "cutFrom", "(LMosaicFloor$Strip;)Z"⟩
def RX4 : String := "MosaicFloor$Strip"
def TX4 : u_T := fun k => match k with
  | 0 => ("MosaicFloor$Strip", "flaws", "[I", true)
  | 1 => ("MosaicFloor$Strip", "flawCount", "I", false)
  | 2 => ("MosaicFloor$Strip", "length", "I", false)
  | 3 => ("MosaicFloor$Strip", "shade", "I", false)
  | 4 => ("MosaicFloor$Strip", "start", "I", false)
  | _ => ("MosaicFloor$Strip", "goodCut", "I", false)
def tyX4 : Nat → FieldType := fun k => match k with
  | 0 => .array .int
  | 1 => .int
  | 2 => .int
  | 3 => .int
  | 4 => .int
  | _ => .int
abbrev wsX40 : List Cond := u_ws RX4 TX4 6
theorem nmX4 : ∀ a, a < 6 → ∀ b, b < 6 → a ≠ b → (TX4 a).2.1 ≠ (TX4 b).2.1 := by decide +kernel
theorem tyX4_ok : ∀ k, k < 6 → parseFieldDescriptor (TX4 k).2.2.1 = some (tyX4 k) := by decide +kernel
abbrev cX4_init : ByteArray := prog_6_method_1_code
def yX4_init : MethodName := ⟨RX4, "<init>", "()V"⟩
abbrev cX4_begin : ByteArray := prog_6_method_2_code
def yX4_begin : MethodName := ⟨RX4, "begin", "(II)V"⟩
abbrev cX4_copyFrom : ByteArray := prog_6_method_3_code
def yX4_copyFrom : MethodName := ⟨RX4, "copyFrom", "(LMosaicFloor$Strip;)V"⟩
abbrev cX4_left : ByteArray := prog_6_method_4_code
def yX4_left : MethodName := ⟨RX4, "left", "()I"⟩
abbrev cX4_addFlaw : ByteArray := prog_6_method_5_code
def yX4_addFlaw : MethodName := ⟨RX4, "addFlaw", "(I)V"⟩
abbrev cX4_hasFlawIn : ByteArray := prog_6_method_6_code
def yX4_hasFlawIn : MethodName := ⟨RX4, "hasFlawIn", "(II)Z"⟩
abbrev cX4_tesseraeAhead : ByteArray := prog_6_method_7_code
def yX4_tesseraeAhead : MethodName := ⟨RX4, "tesseraeAhead", "(II)I"⟩
abbrev cX4_goodTesseraeAhead : ByteArray := prog_6_method_8_code
def yX4_goodTesseraeAhead : MethodName := ⟨RX4, "goodTesseraeAhead", "(II)I"⟩
abbrev cX4_givesGood : ByteArray := prog_6_method_9_code
def yX4_givesGood : MethodName := ⟨RX4, "givesGood", "(II)Z"⟩
abbrev cX4_cutOff : ByteArray := prog_6_method_10_code
def yX4_cutOff : MethodName := ⟨RX4, "cutOff", "(II)Z"⟩
def RX5 : String := "MosaicFloor$Text"
def TX5 : u_T := fun k => match k with
  | 0 => ("MosaicFloor$Text", "characters", "[C", true)
  | _ => ("MosaicFloor$Text", "length", "I", false)
def tyX5 : Nat → FieldType := fun k => match k with
  | 0 => .array .char
  | _ => .int
abbrev wsX50 : List Cond := u_ws RX5 TX5 2
theorem nmX5 : ∀ a, a < 2 → ∀ b, b < 2 → a ≠ b → (TX5 a).2.1 ≠ (TX5 b).2.1 := by decide +kernel
theorem tyX5_ok : ∀ k, k < 2 → parseFieldDescriptor (TX5 k).2.2.1 = some (tyX5 k) := by decide +kernel
abbrev cX5_init : ByteArray := prog_7_method_1_code
def yX5_init : MethodName := ⟨RX5, "<init>", "()V"⟩
abbrev cX5_append : ByteArray := prog_7_method_2_code
def yX5_append : MethodName := ⟨RX5, "append", "(I)V"⟩
abbrev cX5_firstFaultOrNone : ByteArray := prog_7_method_3_code
def yX5_firstFaultOrNone : MethodName := ⟨RX5, "firstFaultOrNone", "()I"⟩
abbrev cX5_readShades : ByteArray := prog_7_method_4_code
def yX5_readShades : MethodName := ⟨RX5, "readShades", "([I)I"⟩
abbrev cX5_isDigit : ByteArray := prog_7_method_5_code
def yX5_isDigit : MethodName := ⟨RX5, "isDigit", "(C)Z"⟩
def RX6 : String := "MosaicFloor"
def TX6 : u_T := fun k => match k with
  | 0 => ("MosaicFloor", "now", "LMosaicFloor$State;", true)
  | 1 => ("MosaicFloor", "trial", "LMosaicFloor$State;", true)
  | 2 => ("MosaicFloor", "history", "LMosaicFloor$History;", true)
  | _ => ("MosaicFloor", "text", "LMosaicFloor$Text;", true)
def tyX6 : Nat → FieldType := fun k => match k with
  | 0 => .object "MosaicFloor$State"
  | 1 => .object "MosaicFloor$State"
  | 2 => .object "MosaicFloor$History"
  | _ => .object "MosaicFloor$Text"
abbrev wsX60 : List Cond := u_ws RX6 TX6 4
theorem nmX6 : ∀ a, a < 4 → ∀ b, b < 4 → a ≠ b → (TX6 a).2.1 ≠ (TX6 b).2.1 := by decide +kernel
theorem tyX6_ok : ∀ k, k < 4 → parseFieldDescriptor (TX6 k).2.2.1 = some (tyX6 k) := by decide +kernel
abbrev cX6_init : ByteArray := prog_1_method_1_code
def yX6_init : MethodName := ⟨RX6, "<init>", "()V"⟩
abbrev cX6_floor : ByteArray := prog_1_method_2_code
def yX6_floor : MethodName := ⟨RX6, "floor", "(II)I"⟩
abbrev cX6_set : ByteArray := prog_1_method_3_code
def yX6_set : MethodName := ⟨RX6, "set", "(II)I"⟩
abbrev cX6_pattern : ByteArray := prog_1_method_4_code
def yX6_pattern : MethodName := ⟨RX6, "pattern", "()I"⟩
abbrev cX6_way : ByteArray := prog_1_method_5_code
def yX6_way : MethodName := ⟨RX6, "way", "(I)I"⟩
abbrev cX6_want : ByteArray := prog_1_method_6_code
def yX6_want : MethodName := ⟨RX6, "want", "(III)I"⟩
abbrev cX6_cell : ByteArray := prog_1_method_7_code
def yX6_cell : MethodName := ⟨RX6, "cell", "(III)I"⟩
abbrev cX6_count : ByteArray := prog_1_method_8_code
def yX6_count : MethodName := ⟨RX6, "count", "(I)I"⟩
abbrev cX6_shade : ByteArray := prog_1_method_9_code
def yX6_shade : MethodName := ⟨RX6, "shade", "(I)I"⟩
abbrev cX6_undo : ByteArray := prog_1_method_10_code
def yX6_undo : MethodName := ⟨RX6, "undo", "()I"⟩
abbrev cX6_strip : ByteArray := prog_1_method_11_code
def yX6_strip : MethodName := ⟨RX6, "strip", "(II)I"⟩
abbrev cX6_flaw : ByteArray := prog_1_method_12_code
def yX6_flaw : MethodName := ⟨RX6, "flaw", "(II)I"⟩
abbrev cX6_cut : ByteArray := prog_1_method_13_code
def yX6_cut : MethodName := ⟨RX6, "cut", "(I)I"⟩
abbrev cX6_stripOf : ByteArray := prog_1_method_14_code
def yX6_stripOf : MethodName := ⟨RX6, "stripOf", "(II)I"⟩
abbrev cX6_lay : ByteArray := prog_1_method_15_code
def yX6_lay : MethodName := ⟨RX6, "lay", "(II)I"⟩
abbrev cX6_layAll : ByteArray := prog_1_method_16_code
def yX6_layAll : MethodName := ⟨RX6, "layAll", "()I"⟩
abbrev cX6_lift : ByteArray := prog_1_method_17_code
def yX6_lift : MethodName := ⟨RX6, "lift", "(II)I"⟩
abbrev cX6_nearest : ByteArray := prog_1_method_18_code
def yX6_nearest : MethodName := ⟨RX6, "nearest", "(II)I"⟩
abbrev cX6_ready : ByteArray := prog_1_method_19_code
def yX6_ready : MethodName := ⟨RX6, "ready", "(I)I"⟩
abbrev cX6_lacks : ByteArray := prog_1_method_20_code
def yX6_lacks : MethodName := ⟨RX6, "lacks", "(I)I"⟩
abbrev cX6_stripFor : ByteArray := prog_1_method_21_code
def yX6_stripFor : MethodName := ⟨RX6, "stripFor", "(I)I"⟩
abbrev cX6_ifLaid : ByteArray := prog_1_method_22_code
def yX6_ifLaid : MethodName := ⟨RX6, "ifLaid", "()I"⟩
abbrev cX6_type : ByteArray := prog_1_method_23_code
def yX6_type : MethodName := ⟨RX6, "type", "(I)I"⟩
abbrev cX6_clearText : ByteArray := prog_1_method_24_code
def yX6_clearText : MethodName := ⟨RX6, "clearText", "()I"⟩
abbrev cX6_fault : ByteArray := prog_1_method_25_code
def yX6_fault : MethodName := ⟨RX6, "fault", "()I"⟩
abbrev cX6_isWithin : ByteArray := prog_1_method_26_code
def yX6_isWithin : MethodName := ⟨RX6, "isWithin", "(III)Z"⟩
abbrev cX6_isShade : ByteArray := prog_1_method_27_code
def yX6_isShade : MethodName := ⟨RX6, "isShade", "(I)Z"⟩
abbrev cX6_changeSize : ByteArray := prog_1_method_28_code
def yX6_changeSize : MethodName := ⟨RX6, "changeSize", "(I)I"⟩
abbrev cX6_changeLoss : ByteArray := prog_1_method_29_code
def yX6_changeLoss : MethodName := ⟨RX6, "changeLoss", "(I)I"⟩
abbrev cX6_countOfPlan : ByteArray := prog_1_method_30_code
def yX6_countOfPlan : MethodName := ⟨RX6, "countOfPlan", "(I)I"⟩
abbrev cX6_countOfWork : ByteArray := prog_1_method_31_code
def yX6_countOfWork : MethodName := ⟨RX6, "countOfWork", "(I)I"⟩
abbrev cX6_account : ByteArray := prog_1_method_32_code
def yX6_account : MethodName := ⟨RX6, "account", "(I)I"⟩
def RX7 : String := "MosaicFloorModel"
def TX7 : u_T := fun k => match k with
  | 0 => ("MosaicFloorModel", "m", "[I", true)
  | 1 => ("MosaicFloorModel", "spare", "[I", true)
  | 2 => ("MosaicFloorModel", "saved", "[I", true)
  | 3 => ("MosaicFloorModel", "savedCount", "I", false)
  | 4 => ("MosaicFloorModel", "text", "[I", true)
  | 5 => ("MosaicFloorModel", "textLength", "I", false)
  | 6 => ("MosaicFloorModel", "read", "[I", true)
  | _ => ("MosaicFloorModel", "readCount", "I", false)
def tyX7 : Nat → FieldType := fun k => match k with
  | 0 => .array .int
  | 1 => .array .int
  | 2 => .array .int
  | 3 => .int
  | 4 => .array .int
  | 5 => .int
  | 6 => .array .int
  | _ => .int
abbrev wsX70 : List Cond := u_ws RX7 TX7 8
theorem nmX7 : ∀ a, a < 8 → ∀ b, b < 8 → a ≠ b → (TX7 a).2.1 ≠ (TX7 b).2.1 := by decide +kernel
theorem tyX7_ok : ∀ k, k < 8 → parseFieldDescriptor (TX7 k).2.2.1 = some (tyX7 k) := by decide +kernel
abbrev cX7_init : ByteArray := prog_9_method_1_code
def yX7_init : MethodName := ⟨RX7, "<init>", "()V"⟩
abbrev cX7_in : ByteArray := prog_9_method_2_code
def yX7_in : MethodName := ⟨RX7, "in", "(III)Z"⟩
abbrev cX7_lesser : ByteArray := prog_9_method_3_code
def yX7_lesser : MethodName := ⟨RX7, "lesser", "(II)I"⟩
abbrev cX7_size : ByteArray := prog_9_method_4_code
def yX7_size : MethodName := ⟨RX7, "size", "(I)I"⟩
abbrev cX7_bring : ByteArray := prog_9_method_5_code
def yX7_bring : MethodName := ⟨RX7, "bring", "([II[II)V"⟩
abbrev cX7_keep : ByteArray := prog_9_method_6_code
def yX7_keep : MethodName := ⟨RX7, "keep", "()V"⟩
abbrev cX7_beginWith : ByteArray := prog_9_method_7_code
def yX7_beginWith : MethodName := ⟨RX7, "beginWith", "(II)V"⟩
abbrev cX7_isCell : ByteArray := prog_9_method_8_code
def yX7_isCell : MethodName := ⟨RX7, "isCell", "(II)Z"⟩
abbrev cX7_cells : ByteArray := prog_9_method_9_code
def yX7_cells : MethodName := ⟨RX7, "cells", "()I"⟩
abbrev cX7_laidCells : ByteArray := prog_9_method_10_code
def yX7_laidCells : MethodName := ⟨RX7, "laidCells", "()I"⟩
abbrev cX7_around : ByteArray := prog_9_method_11_code
def yX7_around : MethodName := ⟨RX7, "around", "()I"⟩
abbrev cX7_borderOf : ByteArray := prog_9_method_12_code
def yX7_borderOf : MethodName := ⟨RX7, "borderOf", "(II)I"⟩
abbrev cX7_borderWants : ByteArray := prog_9_method_13_code
def yX7_borderWants : MethodName := ⟨RX7, "borderWants", "(I)I"⟩
abbrev cX7_wanted : ByteArray := prog_9_method_14_code
def yX7_wanted : MethodName := ⟨RX7, "wanted", "(I)I"⟩
abbrev cX7_meets : ByteArray := prog_9_method_15_code
def yX7_meets : MethodName := ⟨RX7, "meets", "()Z"⟩
abbrev cX7_floor : ByteArray := prog_9_method_16_code
def yX7_floor : MethodName := ⟨RX7, "floor", "(II)I"⟩
abbrev cX7_atHand : ByteArray := prog_9_method_17_code
def yX7_atHand : MethodName := ⟨RX7, "atHand", "()I"⟩
abbrev cX7_set : ByteArray := prog_9_method_18_code
def yX7_set : MethodName := ⟨RX7, "set", "(II)I"⟩
abbrev cX7_way : ByteArray := prog_9_method_19_code
def yX7_way : MethodName := ⟨RX7, "way", "(I)I"⟩
abbrev cX7_want : ByteArray := prog_9_method_20_code
def yX7_want : MethodName := ⟨RX7, "want", "(III)I"⟩
abbrev cX7_difference : ByteArray := prog_9_method_21_code
def yX7_difference : MethodName := ⟨RX7, "difference", "(I)I"⟩
abbrev cX7_cellOf : ByteArray := prog_9_method_22_code
def yX7_cellOf : MethodName := ⟨RX7, "cellOf", "(III)I"⟩
abbrev cX7_cell : ByteArray := prog_9_method_23_code
def yX7_cell : MethodName := ⟨RX7, "cell", "(III)I"⟩
abbrev cX7_differences : ByteArray := prog_9_method_24_code
def yX7_differences : MethodName := ⟨RX7, "differences", "(Z)I"⟩
abbrev cX7_account : ByteArray := prog_9_method_25_code
def yX7_account : MethodName := ⟨RX7, "account", "(I)I"⟩
abbrev cX7_count : ByteArray := prog_9_method_26_code
def yX7_count : MethodName := ⟨RX7, "count", "(I)I"⟩
abbrev cX7_shade : ByteArray := prog_9_method_27_code
def yX7_shade : MethodName := ⟨RX7, "shade", "(I)I"⟩
abbrev cX7_undo : ByteArray := prog_9_method_28_code
def yX7_undo : MethodName := ⟨RX7, "undo", "()I"⟩
abbrev cX7_of : ByteArray := prog_9_method_29_code
def yX7_of : MethodName := ⟨RX7, "of", "(II)I"⟩
abbrev cX7_put : ByteArray := prog_9_method_30_code
def yX7_put : MethodName := ⟨RX7, "put", "(III)V"⟩
abbrev cX7_isStrip : ByteArray := prog_9_method_31_code
def yX7_isStrip : MethodName := ⟨RX7, "isStrip", "(I)Z"⟩
abbrev cX7_left : ByteArray := prog_9_method_32_code
def yX7_left : MethodName := ⟨RX7, "left", "(I)I"⟩
abbrev cX7_strip : ByteArray := prog_9_method_33_code
def yX7_strip : MethodName := ⟨RX7, "strip", "(II)I"⟩
abbrev cX7_hasFlaw : ByteArray := prog_9_method_34_code
def yX7_hasFlaw : MethodName := ⟨RX7, "hasFlaw", "(III)Z"⟩
abbrev cX7_flaw : ByteArray := prog_9_method_35_code
def yX7_flaw : MethodName := ⟨RX7, "flaw", "(II)I"⟩
abbrev cX7_canCut : ByteArray := prog_9_method_36_code
def yX7_canCut : MethodName := ⟨RX7, "canCut", "(I)Z"⟩
abbrev cX7_cuts : ByteArray := prog_9_method_37_code
def yX7_cuts : MethodName := ⟨RX7, "cuts", "(I)Z"⟩
abbrev cX7_cut : ByteArray := prog_9_method_38_code
def yX7_cut : MethodName := ⟨RX7, "cut", "(I)I"⟩
abbrev cX7_still : ByteArray := prog_9_method_39_code
def yX7_still : MethodName := ⟨RX7, "still", "(IZ)I"⟩
abbrev cX7_partOf : ByteArray := prog_9_method_40_code
def yX7_partOf : MethodName := ⟨RX7, "partOf", "(II)I"⟩
abbrev cX7_stripOf : ByteArray := prog_9_method_41_code
def yX7_stripOf : MethodName := ⟨RX7, "stripOf", "(II)I"⟩
abbrev cX7_source : ByteArray := prog_9_method_42_code
def yX7_source : MethodName := ⟨RX7, "source", "(I)I"⟩
abbrev cX7_nearestTo : ByteArray := prog_9_method_43_code
def yX7_nearestTo : MethodName := ⟨RX7, "nearestTo", "(I)I"⟩
abbrev cX7_lays : ByteArray := prog_9_method_44_code
def yX7_lays : MethodName := ⟨RX7, "lays", "(I)I"⟩
abbrev cX7_lay : ByteArray := prog_9_method_45_code
def yX7_lay : MethodName := ⟨RX7, "lay", "(II)I"⟩
abbrev cX7_laysIfEmpty : ByteArray := prog_9_method_46_code
def yX7_laysIfEmpty : MethodName := ⟨RX7, "laysIfEmpty", "(I)I"⟩
abbrev cX7_laysAll : ByteArray := prog_9_method_47_code
def yX7_laysAll : MethodName := ⟨RX7, "laysAll", "()I"⟩
abbrev cX7_layAll : ByteArray := prog_9_method_48_code
def yX7_layAll : MethodName := ⟨RX7, "layAll", "()I"⟩
abbrev cX7_lift : ByteArray := prog_9_method_49_code
def yX7_lift : MethodName := ⟨RX7, "lift", "(II)I"⟩
abbrev cX7_nearest : ByteArray := prog_9_method_50_code
def yX7_nearest : MethodName := ⟨RX7, "nearest", "(II)I"⟩
abbrev cX7_readyOf : ByteArray := prog_9_method_51_code
def yX7_readyOf : MethodName := ⟨RX7, "readyOf", "(I)I"⟩
abbrev cX7_ready : ByteArray := prog_9_method_52_code
def yX7_ready : MethodName := ⟨RX7, "ready", "(I)I"⟩
abbrev cX7_lacksOf : ByteArray := prog_9_method_53_code
def yX7_lacksOf : MethodName := ⟨RX7, "lacksOf", "(I)I"⟩
abbrev cX7_lacks : ByteArray := prog_9_method_54_code
def yX7_lacks : MethodName := ⟨RX7, "lacks", "(I)I"⟩
abbrev cX7_stripFor : ByteArray := prog_9_method_55_code
def yX7_stripFor : MethodName := ⟨RX7, "stripFor", "(I)I"⟩
abbrev cX7_ifLaid : ByteArray := prog_9_method_56_code
def yX7_ifLaid : MethodName := ⟨RX7, "ifLaid", "()I"⟩
abbrev cX7_type : ByteArray := prog_9_method_57_code
def yX7_type : MethodName := ⟨RX7, "type", "(I)I"⟩
abbrev cX7_clearText : ByteArray := prog_9_method_58_code
def yX7_clearText : MethodName := ⟨RX7, "clearText", "()I"⟩
abbrev cX7_faultNow : ByteArray := prog_9_method_59_code
def yX7_faultNow : MethodName := ⟨RX7, "faultNow", "()I"⟩
abbrev cX7_fault : ByteArray := prog_9_method_60_code
def yX7_fault : MethodName := ⟨RX7, "fault", "()I"⟩
abbrev cX7_pattern : ByteArray := prog_9_method_61_code
def yX7_pattern : MethodName := ⟨RX7, "pattern", "()I"⟩
def RJ9 : String := "java/lang/Math"
abbrev cJ9_abs_0f7a4 : ByteArray := prog_10_method_59_code
def yJ9_abs_0f7a4 : MethodName := ⟨RJ9, "abs", "(I)I"⟩
abbrev cJ9_max_7cf53 : ByteArray := prog_10_method_65_code
def yJ9_max_7cf53 : MethodName := ⟨RJ9, "max", "(II)I"⟩
abbrev cJ9_min_7cf53 : ByteArray := prog_10_method_69_code
def yJ9_min_7cf53 : MethodName := ⟨RJ9, "min", "(II)I"⟩
def RJ10 : String := "java/lang/System"
def RJ7 : String := "java/util/Arrays"
abbrev cJ7_fill_53178 : ByteArray := prog_12_method_103_code
def yJ7_fill_53178 : MethodName := ⟨RJ7, "fill", "([II)V"⟩
def RL : String := "MosaicFloorLaw"
abbrev cL_law : ByteArray := code
def yL_law : MethodName := ⟨RL, "law", "([I)Z"⟩
end
section
theorem dX0_init_0 : decode cX0_init 0 = .ok (.aload_n 0, 1) := by decide +kernel
theorem dX0_init_1 : decode cX0_init 1 = .ok (.invokespecial 3, 3) := by decide +kernel
theorem dX0_init_4 : decode cX0_init 4 = .ok (.aload_n 0, 1) := by decide +kernel
theorem dX0_init_5 : decode cX0_init 5 = .ok (.iconst 5, 1) := by decide +kernel
theorem dX0_init_6 : decode cX0_init 6 = .ok (.anewarray 9, 3) := by decide +kernel
theorem dX0_init_9 : decode cX0_init 9 = .ok (.putfield 11, 3) := by decide +kernel
theorem dX0_init_12 : decode cX0_init 12 = .ok (.iconst 0, 1) := by decide +kernel
theorem dX0_init_13 : decode cX0_init 13 = .ok (.istore_n 1, 1) := by decide +kernel
theorem dX0_init_14 : decode cX0_init 14 = .ok (.iload_n 1, 1) := by decide +kernel
theorem dX0_init_15 : decode cX0_init 15 = .ok (.aload_n 0, 1) := by decide +kernel
theorem dX0_init_16 : decode cX0_init 16 = .ok (.getfield 11, 3) := by decide +kernel
theorem dX0_init_19 : decode cX0_init 19 = .ok (.arraylength, 1) := by decide +kernel
theorem dX0_init_20 : decode cX0_init 20 = .ok (.if_icmp .ge 22, 3) := by decide +kernel
theorem dX0_init_23 : decode cX0_init 23 = .ok (.aload_n 0, 1) := by decide +kernel
theorem dX0_init_24 : decode cX0_init 24 = .ok (.getfield 11, 3) := by decide +kernel
theorem dX0_init_27 : decode cX0_init 27 = .ok (.iload_n 1, 1) := by decide +kernel
theorem dX0_init_28 : decode cX0_init 28 = .ok (.new 9, 3) := by decide +kernel
theorem dX0_init_31 : decode cX0_init 31 = .ok (.dup, 1) := by decide +kernel
theorem dX0_init_32 : decode cX0_init 32 = .ok (.invokespecial 17, 3) := by decide +kernel
theorem dX0_init_35 : decode cX0_init 35 = .ok (.aastore, 1) := by decide +kernel
theorem dX0_init_36 : decode cX0_init 36 = .ok (.iinc 1 1, 3) := by decide +kernel
theorem dX0_init_39 : decode cX0_init 39 = .ok (.goto (-25), 3) := by decide +kernel
theorem dX0_init_42 : decode cX0_init 42 = .ok (.return_, 1) := by decide +kernel
theorem dX0_states_0 : decode cX0_states 0 = .ok (.aload_n 0, 1) := by decide +kernel
theorem dX0_states_1 : decode cX0_states 1 = .ok (.getfield 18, 3) := by decide +kernel
theorem dX0_states_4 : decode cX0_states 4 = .ok (.ireturn, 1) := by decide +kernel
theorem dX0_keep_0 : decode cX0_keep 0 = .ok (.aload_n 0, 1) := by decide +kernel
theorem dX0_keep_1 : decode cX0_keep 1 = .ok (.getfield 18, 3) := by decide +kernel
theorem dX0_keep_4 : decode cX0_keep 4 = .ok (.aload_n 0, 1) := by decide +kernel
theorem dX0_keep_5 : decode cX0_keep 5 = .ok (.getfield 11, 3) := by decide +kernel
theorem dX0_keep_8 : decode cX0_keep 8 = .ok (.arraylength, 1) := by decide +kernel
theorem dX0_keep_9 : decode cX0_keep 9 = .ok (.if_icmp .lt 7, 3) := by decide +kernel
theorem dX0_keep_12 : decode cX0_keep 12 = .ok (.aload_n 0, 1) := by decide +kernel
theorem dX0_keep_13 : decode cX0_keep 13 = .ok (.invokevirtual 22, 3) := by decide +kernel
theorem dX0_keep_16 : decode cX0_keep 16 = .ok (.aload_n 0, 1) := by decide +kernel
theorem dX0_keep_17 : decode cX0_keep 17 = .ok (.getfield 18, 3) := by decide +kernel
theorem dX0_keep_20 : decode cX0_keep 20 = .ok (.ifCond .lt 38, 3) := by decide +kernel
theorem dX0_keep_23 : decode cX0_keep 23 = .ok (.aload_n 0, 1) := by decide +kernel
theorem dX0_keep_24 : decode cX0_keep 24 = .ok (.getfield 18, 3) := by decide +kernel
theorem dX0_keep_27 : decode cX0_keep 27 = .ok (.aload_n 0, 1) := by decide +kernel
theorem dX0_keep_28 : decode cX0_keep 28 = .ok (.getfield 11, 3) := by decide +kernel
theorem dX0_keep_31 : decode cX0_keep 31 = .ok (.arraylength, 1) := by decide +kernel
theorem dX0_keep_32 : decode cX0_keep 32 = .ok (.if_icmp .ge 26, 3) := by decide +kernel
theorem dX0_keep_35 : decode cX0_keep 35 = .ok (.aload_n 0, 1) := by decide +kernel
theorem dX0_keep_36 : decode cX0_keep 36 = .ok (.getfield 11, 3) := by decide +kernel
theorem dX0_keep_39 : decode cX0_keep 39 = .ok (.aload_n 0, 1) := by decide +kernel
theorem dX0_keep_40 : decode cX0_keep 40 = .ok (.getfield 18, 3) := by decide +kernel
theorem dX0_keep_43 : decode cX0_keep 43 = .ok (.aaload, 1) := by decide +kernel
theorem dX0_keep_44 : decode cX0_keep 44 = .ok (.aload_n 1, 1) := by decide +kernel
theorem dX0_keep_45 : decode cX0_keep 45 = .ok (.invokevirtual 25, 3) := by decide +kernel
theorem dX0_keep_48 : decode cX0_keep 48 = .ok (.aload_n 0, 1) := by decide +kernel
theorem dX0_keep_49 : decode cX0_keep 49 = .ok (.dup, 1) := by decide +kernel
theorem dX0_keep_50 : decode cX0_keep 50 = .ok (.getfield 18, 3) := by decide +kernel
theorem dX0_keep_53 : decode cX0_keep 53 = .ok (.iconst 1, 1) := by decide +kernel
theorem dX0_keep_54 : decode cX0_keep 54 = .ok (.iadd, 1) := by decide +kernel
theorem dX0_keep_55 : decode cX0_keep 55 = .ok (.putfield 18, 3) := by decide +kernel
theorem dX0_keep_58 : decode cX0_keep 58 = .ok (.return_, 1) := by decide +kernel
theorem dX0_dropOldest_0 : decode cX0_dropOldest 0 = .ok (.aload_n 0, 1) := by decide +kernel
theorem dX0_dropOldest_1 : decode cX0_dropOldest 1 = .ok (.getfield 11, 3) := by decide +kernel
theorem dX0_dropOldest_4 : decode cX0_dropOldest 4 = .ok (.iconst 0, 1) := by decide +kernel
theorem dX0_dropOldest_5 : decode cX0_dropOldest 5 = .ok (.aaload, 1) := by decide +kernel
theorem dX0_dropOldest_6 : decode cX0_dropOldest 6 = .ok (.astore_n 1, 1) := by decide +kernel
theorem dX0_dropOldest_7 : decode cX0_dropOldest 7 = .ok (.iconst 1, 1) := by decide +kernel
theorem dX0_dropOldest_8 : decode cX0_dropOldest 8 = .ok (.istore_n 2, 1) := by decide +kernel
theorem dX0_dropOldest_9 : decode cX0_dropOldest 9 = .ok (.iload_n 2, 1) := by decide +kernel
theorem dX0_dropOldest_10 : decode cX0_dropOldest 10 = .ok (.aload_n 0, 1) := by decide +kernel
theorem dX0_dropOldest_11 : decode cX0_dropOldest 11 = .ok (.getfield 11, 3) := by decide +kernel
theorem dX0_dropOldest_14 : decode cX0_dropOldest 14 = .ok (.arraylength, 1) := by decide +kernel
theorem dX0_dropOldest_15 : decode cX0_dropOldest 15 = .ok (.if_icmp .ge 23, 3) := by decide +kernel
theorem dX0_dropOldest_18 : decode cX0_dropOldest 18 = .ok (.aload_n 0, 1) := by decide +kernel
theorem dX0_dropOldest_19 : decode cX0_dropOldest 19 = .ok (.getfield 11, 3) := by decide +kernel
theorem dX0_dropOldest_22 : decode cX0_dropOldest 22 = .ok (.iload_n 2, 1) := by decide +kernel
theorem dX0_dropOldest_23 : decode cX0_dropOldest 23 = .ok (.iconst 1, 1) := by decide +kernel
theorem dX0_dropOldest_24 : decode cX0_dropOldest 24 = .ok (.isub, 1) := by decide +kernel
theorem dX0_dropOldest_25 : decode cX0_dropOldest 25 = .ok (.aload_n 0, 1) := by decide +kernel
theorem dX0_dropOldest_26 : decode cX0_dropOldest 26 = .ok (.getfield 11, 3) := by decide +kernel
theorem dX0_dropOldest_29 : decode cX0_dropOldest 29 = .ok (.iload_n 2, 1) := by decide +kernel
theorem dX0_dropOldest_30 : decode cX0_dropOldest 30 = .ok (.aaload, 1) := by decide +kernel
theorem dX0_dropOldest_31 : decode cX0_dropOldest 31 = .ok (.aastore, 1) := by decide +kernel
theorem dX0_dropOldest_32 : decode cX0_dropOldest 32 = .ok (.iinc 2 1, 3) := by decide +kernel
theorem dX0_dropOldest_35 : decode cX0_dropOldest 35 = .ok (.goto (-26), 3) := by decide +kernel
theorem dX0_dropOldest_38 : decode cX0_dropOldest 38 = .ok (.aload_n 0, 1) := by decide +kernel
theorem dX0_dropOldest_39 : decode cX0_dropOldest 39 = .ok (.getfield 11, 3) := by decide +kernel
theorem dX0_dropOldest_42 : decode cX0_dropOldest 42 = .ok (.aload_n 0, 1) := by decide +kernel
theorem dX0_dropOldest_43 : decode cX0_dropOldest 43 = .ok (.getfield 11, 3) := by decide +kernel
theorem dX0_dropOldest_46 : decode cX0_dropOldest 46 = .ok (.arraylength, 1) := by decide +kernel
theorem dX0_dropOldest_47 : decode cX0_dropOldest 47 = .ok (.iconst 1, 1) := by decide +kernel
theorem dX0_dropOldest_48 : decode cX0_dropOldest 48 = .ok (.isub, 1) := by decide +kernel
theorem dX0_dropOldest_49 : decode cX0_dropOldest 49 = .ok (.aload_n 1, 1) := by decide +kernel
theorem dX0_dropOldest_50 : decode cX0_dropOldest 50 = .ok (.aastore, 1) := by decide +kernel
theorem dX0_dropOldest_51 : decode cX0_dropOldest 51 = .ok (.aload_n 0, 1) := by decide +kernel
theorem dX0_dropOldest_52 : decode cX0_dropOldest 52 = .ok (.dup, 1) := by decide +kernel
theorem dX0_dropOldest_53 : decode cX0_dropOldest 53 = .ok (.getfield 18, 3) := by decide +kernel
theorem dX0_dropOldest_56 : decode cX0_dropOldest 56 = .ok (.iconst 1, 1) := by decide +kernel
theorem dX0_dropOldest_57 : decode cX0_dropOldest 57 = .ok (.isub, 1) := by decide +kernel
theorem dX0_dropOldest_58 : decode cX0_dropOldest 58 = .ok (.putfield 18, 3) := by decide +kernel
theorem dX0_dropOldest_61 : decode cX0_dropOldest 61 = .ok (.return_, 1) := by decide +kernel
theorem dX0_restore_0 : decode cX0_restore 0 = .ok (.aload_n 0, 1) := by decide +kernel
theorem dX0_restore_1 : decode cX0_restore 1 = .ok (.getfield 18, 3) := by decide +kernel
theorem dX0_restore_4 : decode cX0_restore 4 = .ok (.ifCond .le 38, 3) := by decide +kernel
theorem dX0_restore_7 : decode cX0_restore 7 = .ok (.aload_n 0, 1) := by decide +kernel
theorem dX0_restore_8 : decode cX0_restore 8 = .ok (.getfield 18, 3) := by decide +kernel
theorem dX0_restore_11 : decode cX0_restore 11 = .ok (.aload_n 0, 1) := by decide +kernel
theorem dX0_restore_12 : decode cX0_restore 12 = .ok (.getfield 11, 3) := by decide +kernel
theorem dX0_restore_15 : decode cX0_restore 15 = .ok (.arraylength, 1) := by decide +kernel
theorem dX0_restore_16 : decode cX0_restore 16 = .ok (.if_icmp .gt 26, 3) := by decide +kernel
theorem dX0_restore_19 : decode cX0_restore 19 = .ok (.aload_n 0, 1) := by decide +kernel
theorem dX0_restore_20 : decode cX0_restore 20 = .ok (.dup, 1) := by decide +kernel
theorem dX0_restore_21 : decode cX0_restore 21 = .ok (.getfield 18, 3) := by decide +kernel
theorem dX0_restore_24 : decode cX0_restore 24 = .ok (.iconst 1, 1) := by decide +kernel
theorem dX0_restore_25 : decode cX0_restore 25 = .ok (.isub, 1) := by decide +kernel
theorem dX0_restore_26 : decode cX0_restore 26 = .ok (.putfield 18, 3) := by decide +kernel
theorem dX0_restore_29 : decode cX0_restore 29 = .ok (.aload_n 1, 1) := by decide +kernel
theorem dX0_restore_30 : decode cX0_restore 30 = .ok (.aload_n 0, 1) := by decide +kernel
theorem dX0_restore_31 : decode cX0_restore 31 = .ok (.getfield 11, 3) := by decide +kernel
theorem dX0_restore_34 : decode cX0_restore 34 = .ok (.aload_n 0, 1) := by decide +kernel
theorem dX0_restore_35 : decode cX0_restore 35 = .ok (.getfield 18, 3) := by decide +kernel
theorem dX0_restore_38 : decode cX0_restore 38 = .ok (.aaload, 1) := by decide +kernel
theorem dX0_restore_39 : decode cX0_restore 39 = .ok (.invokevirtual 25, 3) := by decide +kernel
theorem dX0_restore_42 : decode cX0_restore 42 = .ok (.return_, 1) := by decide +kernel
theorem dX1_init_0 : decode cX1_init 0 = .ok (.aload_n 0, 1) := by decide +kernel
theorem dX1_init_1 : decode cX1_init 1 = .ok (.invokespecial 3, 3) := by decide +kernel
theorem dX1_init_4 : decode cX1_init 4 = .ok (.aload_n 0, 1) := by decide +kernel
theorem dX1_init_5 : decode cX1_init 5 = .ok (.sipush 144, 3) := by decide +kernel
theorem dX1_init_8 : decode cX1_init 8 = .ok (.newarray .int, 2) := by decide +kernel
theorem dX1_init_10 : decode cX1_init 10 = .ok (.putfield 9, 3) := by decide +kernel
theorem dX1_init_13 : decode cX1_init 13 = .ok (.aload_n 0, 1) := by decide +kernel
theorem dX1_init_14 : decode cX1_init 14 = .ok (.bipush 8, 2) := by decide +kernel
theorem dX1_init_16 : decode cX1_init 16 = .ok (.newarray .int, 2) := by decide +kernel
theorem dX1_init_18 : decode cX1_init 18 = .ok (.putfield 15, 3) := by decide +kernel
theorem dX1_init_21 : decode cX1_init 21 = .ok (.aload_n 0, 1) := by decide +kernel
theorem dX1_init_22 : decode cX1_init 22 = .ok (.iconst 1, 1) := by decide +kernel
theorem dX1_init_23 : decode cX1_init 23 = .ok (.putfield 18, 3) := by decide +kernel
theorem dX1_init_26 : decode cX1_init 26 = .ok (.aload_n 0, 1) := by decide +kernel
theorem dX1_init_27 : decode cX1_init 27 = .ok (.iconst 0, 1) := by decide +kernel
theorem dX1_init_28 : decode cX1_init 28 = .ok (.putfield 22, 3) := by decide +kernel
theorem dX1_init_31 : decode cX1_init 31 = .ok (.aload_n 0, 1) := by decide +kernel
theorem dX1_init_32 : decode cX1_init 32 = .ok (.bipush 6, 2) := by decide +kernel
theorem dX1_init_34 : decode cX1_init 34 = .ok (.iconst 4, 1) := by decide +kernel
theorem dX1_init_35 : decode cX1_init 35 = .ok (.invokevirtual 25, 3) := by decide +kernel
theorem dX1_init_38 : decode cX1_init 38 = .ok (.return_, 1) := by decide +kernel
theorem dX1_begin_0 : decode cX1_begin 0 = .ok (.aload_n 0, 1) := by decide +kernel
theorem dX1_begin_1 : decode cX1_begin 1 = .ok (.iload_n 1, 1) := by decide +kernel
theorem dX1_begin_2 : decode cX1_begin 2 = .ok (.putfield 29, 3) := by decide +kernel
theorem dX1_begin_5 : decode cX1_begin 5 = .ok (.aload_n 0, 1) := by decide +kernel
theorem dX1_begin_6 : decode cX1_begin 6 = .ok (.iload_n 2, 1) := by decide +kernel
theorem dX1_begin_7 : decode cX1_begin 7 = .ok (.putfield 32, 3) := by decide +kernel
theorem dX1_begin_10 : decode cX1_begin 10 = .ok (.aload_n 0, 1) := by decide +kernel
theorem dX1_begin_11 : decode cX1_begin 11 = .ok (.getfield 9, 3) := by decide +kernel
theorem dX1_begin_14 : decode cX1_begin 14 = .ok (.bipush 50, 2) := by decide +kernel
theorem dX1_begin_16 : decode cX1_begin 16 = .ok (.invokestatic 35, 3) := by decide +kernel
theorem dX1_begin_19 : decode cX1_begin 19 = .ok (.return_, 1) := by decide +kernel
theorem dX1_copyFrom_0 : decode cX1_copyFrom 0 = .ok (.aload_n 1, 1) := by decide +kernel
theorem dX1_copyFrom_1 : decode cX1_copyFrom 1 = .ok (.getfield 9, 3) := by decide +kernel
theorem dX1_copyFrom_4 : decode cX1_copyFrom 4 = .ok (.iconst 0, 1) := by decide +kernel
theorem dX1_copyFrom_5 : decode cX1_copyFrom 5 = .ok (.aload_n 0, 1) := by decide +kernel
theorem dX1_copyFrom_6 : decode cX1_copyFrom 6 = .ok (.getfield 9, 3) := by decide +kernel
theorem dX1_copyFrom_9 : decode cX1_copyFrom 9 = .ok (.iconst 0, 1) := by decide +kernel
theorem dX1_copyFrom_10 : decode cX1_copyFrom 10 = .ok (.aload_n 0, 1) := by decide +kernel
theorem dX1_copyFrom_11 : decode cX1_copyFrom 11 = .ok (.getfield 9, 3) := by decide +kernel
theorem dX1_copyFrom_14 : decode cX1_copyFrom 14 = .ok (.arraylength, 1) := by decide +kernel
theorem dX1_copyFrom_15 : decode cX1_copyFrom 15 = .ok (.invokestatic 41, 3) := by decide +kernel
theorem dX1_copyFrom_18 : decode cX1_copyFrom 18 = .ok (.aload_n 1, 1) := by decide +kernel
theorem dX1_copyFrom_19 : decode cX1_copyFrom 19 = .ok (.getfield 15, 3) := by decide +kernel
theorem dX1_copyFrom_22 : decode cX1_copyFrom 22 = .ok (.iconst 0, 1) := by decide +kernel
theorem dX1_copyFrom_23 : decode cX1_copyFrom 23 = .ok (.aload_n 0, 1) := by decide +kernel
theorem dX1_copyFrom_24 : decode cX1_copyFrom 24 = .ok (.getfield 15, 3) := by decide +kernel
theorem dX1_copyFrom_27 : decode cX1_copyFrom 27 = .ok (.iconst 0, 1) := by decide +kernel
theorem dX1_copyFrom_28 : decode cX1_copyFrom 28 = .ok (.aload_n 0, 1) := by decide +kernel
theorem dX1_copyFrom_29 : decode cX1_copyFrom 29 = .ok (.getfield 15, 3) := by decide +kernel
theorem dX1_copyFrom_32 : decode cX1_copyFrom 32 = .ok (.arraylength, 1) := by decide +kernel
theorem dX1_copyFrom_33 : decode cX1_copyFrom 33 = .ok (.invokestatic 41, 3) := by decide +kernel
theorem dX1_copyFrom_36 : decode cX1_copyFrom 36 = .ok (.aload_n 0, 1) := by decide +kernel
theorem dX1_copyFrom_37 : decode cX1_copyFrom 37 = .ok (.aload_n 1, 1) := by decide +kernel
theorem dX1_copyFrom_38 : decode cX1_copyFrom 38 = .ok (.getfield 18, 3) := by decide +kernel
theorem dX1_copyFrom_41 : decode cX1_copyFrom 41 = .ok (.putfield 18, 3) := by decide +kernel
theorem dX1_copyFrom_44 : decode cX1_copyFrom 44 = .ok (.aload_n 0, 1) := by decide +kernel
theorem dX1_copyFrom_45 : decode cX1_copyFrom 45 = .ok (.aload_n 1, 1) := by decide +kernel
theorem dX1_copyFrom_46 : decode cX1_copyFrom 46 = .ok (.getfield 22, 3) := by decide +kernel
theorem dX1_copyFrom_49 : decode cX1_copyFrom 49 = .ok (.putfield 22, 3) := by decide +kernel
theorem dX1_copyFrom_52 : decode cX1_copyFrom 52 = .ok (.aload_n 0, 1) := by decide +kernel
theorem dX1_copyFrom_53 : decode cX1_copyFrom 53 = .ok (.aload_n 1, 1) := by decide +kernel
theorem dX1_copyFrom_54 : decode cX1_copyFrom 54 = .ok (.getfield 29, 3) := by decide +kernel
theorem dX1_copyFrom_57 : decode cX1_copyFrom 57 = .ok (.putfield 29, 3) := by decide +kernel
theorem dX1_copyFrom_60 : decode cX1_copyFrom 60 = .ok (.aload_n 0, 1) := by decide +kernel
theorem dX1_copyFrom_61 : decode cX1_copyFrom 61 = .ok (.aload_n 1, 1) := by decide +kernel
theorem dX1_copyFrom_62 : decode cX1_copyFrom 62 = .ok (.getfield 32, 3) := by decide +kernel
theorem dX1_copyFrom_65 : decode cX1_copyFrom 65 = .ok (.putfield 32, 3) := by decide +kernel
theorem dX1_copyFrom_68 : decode cX1_copyFrom 68 = .ok (.return_, 1) := by decide +kernel
theorem dX1_takePattern_0 : decode cX1_takePattern 0 = .ok (.aload_n 0, 1) := by decide +kernel
theorem dX1_takePattern_1 : decode cX1_takePattern 1 = .ok (.aload_n 1, 1) := by decide +kernel
theorem dX1_takePattern_2 : decode cX1_takePattern 2 = .ok (.aload_n 0, 1) := by decide +kernel
theorem dX1_takePattern_3 : decode cX1_takePattern 3 = .ok (.getfield 15, 3) := by decide +kernel
theorem dX1_takePattern_6 : decode cX1_takePattern 6 = .ok (.invokevirtual 47, 3) := by decide +kernel
theorem dX1_takePattern_9 : decode cX1_takePattern 9 = .ok (.putfield 18, 3) := by decide +kernel
theorem dX1_takePattern_12 : decode cX1_takePattern 12 = .ok (.aload_n 0, 1) := by decide +kernel
theorem dX1_takePattern_13 : decode cX1_takePattern 13 = .ok (.getfield 18, 3) := by decide +kernel
theorem dX1_takePattern_16 : decode cX1_takePattern 16 = .ok (.ireturn, 1) := by decide +kernel
theorem dX1_hasCell_0 : decode cX1_hasCell 0 = .ok (.iload_n 1, 1) := by decide +kernel
theorem dX1_hasCell_1 : decode cX1_hasCell 1 = .ok (.ifCond .lt 27, 3) := by decide +kernel
theorem dX1_hasCell_4 : decode cX1_hasCell 4 = .ok (.iload_n 1, 1) := by decide +kernel
theorem dX1_hasCell_5 : decode cX1_hasCell 5 = .ok (.aload_n 0, 1) := by decide +kernel
theorem dX1_hasCell_6 : decode cX1_hasCell 6 = .ok (.getfield 29, 3) := by decide +kernel
theorem dX1_hasCell_9 : decode cX1_hasCell 9 = .ok (.if_icmp .ge 19, 3) := by decide +kernel
theorem dX1_hasCell_12 : decode cX1_hasCell 12 = .ok (.iload_n 2, 1) := by decide +kernel
theorem dX1_hasCell_13 : decode cX1_hasCell 13 = .ok (.ifCond .lt 15, 3) := by decide +kernel
theorem dX1_hasCell_16 : decode cX1_hasCell 16 = .ok (.iload_n 2, 1) := by decide +kernel
theorem dX1_hasCell_17 : decode cX1_hasCell 17 = .ok (.aload_n 0, 1) := by decide +kernel
theorem dX1_hasCell_18 : decode cX1_hasCell 18 = .ok (.getfield 32, 3) := by decide +kernel
theorem dX1_hasCell_21 : decode cX1_hasCell 21 = .ok (.if_icmp .ge 7, 3) := by decide +kernel
theorem dX1_hasCell_24 : decode cX1_hasCell 24 = .ok (.iconst 1, 1) := by decide +kernel
theorem dX1_hasCell_25 : decode cX1_hasCell 25 = .ok (.goto 4, 3) := by decide +kernel
theorem dX1_hasCell_28 : decode cX1_hasCell 28 = .ok (.iconst 0, 1) := by decide +kernel
theorem dX1_hasCell_29 : decode cX1_hasCell 29 = .ok (.ireturn, 1) := by decide +kernel
theorem dX1_isBorder_0 : decode cX1_isBorder 0 = .ok (.iload_n 1, 1) := by decide +kernel
theorem dX1_isBorder_1 : decode cX1_isBorder 1 = .ok (.ifCond .eq 27, 3) := by decide +kernel
theorem dX1_isBorder_4 : decode cX1_isBorder 4 = .ok (.iload_n 1, 1) := by decide +kernel
theorem dX1_isBorder_5 : decode cX1_isBorder 5 = .ok (.aload_n 0, 1) := by decide +kernel
theorem dX1_isBorder_6 : decode cX1_isBorder 6 = .ok (.getfield 29, 3) := by decide +kernel
theorem dX1_isBorder_9 : decode cX1_isBorder 9 = .ok (.iconst 1, 1) := by decide +kernel
theorem dX1_isBorder_10 : decode cX1_isBorder 10 = .ok (.isub, 1) := by decide +kernel
theorem dX1_isBorder_11 : decode cX1_isBorder 11 = .ok (.if_icmp .eq 17, 3) := by decide +kernel
theorem dX1_isBorder_14 : decode cX1_isBorder 14 = .ok (.iload_n 2, 1) := by decide +kernel
theorem dX1_isBorder_15 : decode cX1_isBorder 15 = .ok (.ifCond .eq 13, 3) := by decide +kernel
theorem dX1_isBorder_18 : decode cX1_isBorder 18 = .ok (.iload_n 2, 1) := by decide +kernel
theorem dX1_isBorder_19 : decode cX1_isBorder 19 = .ok (.aload_n 0, 1) := by decide +kernel
theorem dX1_isBorder_20 : decode cX1_isBorder 20 = .ok (.getfield 32, 3) := by decide +kernel
theorem dX1_isBorder_23 : decode cX1_isBorder 23 = .ok (.iconst 1, 1) := by decide +kernel
theorem dX1_isBorder_24 : decode cX1_isBorder 24 = .ok (.isub, 1) := by decide +kernel
theorem dX1_isBorder_25 : decode cX1_isBorder 25 = .ok (.if_icmp .ne 7, 3) := by decide +kernel
theorem dX1_isBorder_28 : decode cX1_isBorder 28 = .ok (.iconst 1, 1) := by decide +kernel
theorem dX1_isBorder_29 : decode cX1_isBorder 29 = .ok (.goto 4, 3) := by decide +kernel
theorem dX1_isBorder_32 : decode cX1_isBorder 32 = .ok (.iconst 0, 1) := by decide +kernel
theorem dX1_isBorder_33 : decode cX1_isBorder 33 = .ok (.ireturn, 1) := by decide +kernel
theorem dX1_borderCells_0 : decode cX1_borderCells 0 = .ok (.iconst 2, 1) := by decide +kernel
theorem dX1_borderCells_1 : decode cX1_borderCells 1 = .ok (.aload_n 0, 1) := by decide +kernel
theorem dX1_borderCells_2 : decode cX1_borderCells 2 = .ok (.invokevirtual 53, 3) := by decide +kernel
theorem dX1_borderCells_5 : decode cX1_borderCells 5 = .ok (.imul, 1) := by decide +kernel
theorem dX1_borderCells_6 : decode cX1_borderCells 6 = .ok (.ireturn, 1) := by decide +kernel
theorem dX1_halfOfBorder_0 : decode cX1_halfOfBorder 0 = .ok (.aload_n 0, 1) := by decide +kernel
theorem dX1_halfOfBorder_1 : decode cX1_halfOfBorder 1 = .ok (.getfield 29, 3) := by decide +kernel
theorem dX1_halfOfBorder_4 : decode cX1_halfOfBorder 4 = .ok (.iconst 1, 1) := by decide +kernel
theorem dX1_halfOfBorder_5 : decode cX1_halfOfBorder 5 = .ok (.isub, 1) := by decide +kernel
theorem dX1_halfOfBorder_6 : decode cX1_halfOfBorder 6 = .ok (.aload_n 0, 1) := by decide +kernel
theorem dX1_halfOfBorder_7 : decode cX1_halfOfBorder 7 = .ok (.getfield 32, 3) := by decide +kernel
theorem dX1_halfOfBorder_10 : decode cX1_halfOfBorder 10 = .ok (.iadd, 1) := by decide +kernel
theorem dX1_halfOfBorder_11 : decode cX1_halfOfBorder 11 = .ok (.iconst 1, 1) := by decide +kernel
theorem dX1_halfOfBorder_12 : decode cX1_halfOfBorder 12 = .ok (.isub, 1) := by decide +kernel
theorem dX1_halfOfBorder_13 : decode cX1_halfOfBorder 13 = .ok (.ireturn, 1) := by decide +kernel
theorem dX1_borderNumberAt_0 : decode cX1_borderNumberAt 0 = .ok (.iload_n 2, 1) := by decide +kernel
theorem dX1_borderNumberAt_1 : decode cX1_borderNumberAt 1 = .ok (.ifCond .ne 5, 3) := by decide +kernel
theorem dX1_borderNumberAt_4 : decode cX1_borderNumberAt 4 = .ok (.iload_n 1, 1) := by decide +kernel
theorem dX1_borderNumberAt_5 : decode cX1_borderNumberAt 5 = .ok (.ireturn, 1) := by decide +kernel
theorem dX1_borderNumberAt_6 : decode cX1_borderNumberAt 6 = .ok (.iload_n 1, 1) := by decide +kernel
theorem dX1_borderNumberAt_7 : decode cX1_borderNumberAt 7 = .ok (.aload_n 0, 1) := by decide +kernel
theorem dX1_borderNumberAt_8 : decode cX1_borderNumberAt 8 = .ok (.getfield 29, 3) := by decide +kernel
theorem dX1_borderNumberAt_11 : decode cX1_borderNumberAt 11 = .ok (.iconst 1, 1) := by decide +kernel
theorem dX1_borderNumberAt_12 : decode cX1_borderNumberAt 12 = .ok (.isub, 1) := by decide +kernel
theorem dX1_borderNumberAt_13 : decode cX1_borderNumberAt 13 = .ok (.if_icmp .ne 7, 3) := by decide +kernel
theorem dX1_borderNumberAt_16 : decode cX1_borderNumberAt 16 = .ok (.iload_n 1, 1) := by decide +kernel
theorem dX1_borderNumberAt_17 : decode cX1_borderNumberAt 17 = .ok (.iload_n 2, 1) := by decide +kernel
theorem dX1_borderNumberAt_18 : decode cX1_borderNumberAt 18 = .ok (.iadd, 1) := by decide +kernel
theorem dX1_borderNumberAt_19 : decode cX1_borderNumberAt 19 = .ok (.ireturn, 1) := by decide +kernel
theorem dX1_borderNumberAt_20 : decode cX1_borderNumberAt 20 = .ok (.iload_n 2, 1) := by decide +kernel
theorem dX1_borderNumberAt_21 : decode cX1_borderNumberAt 21 = .ok (.aload_n 0, 1) := by decide +kernel
theorem dX1_borderNumberAt_22 : decode cX1_borderNumberAt 22 = .ok (.getfield 32, 3) := by decide +kernel
theorem dX1_borderNumberAt_25 : decode cX1_borderNumberAt 25 = .ok (.iconst 1, 1) := by decide +kernel
theorem dX1_borderNumberAt_26 : decode cX1_borderNumberAt 26 = .ok (.isub, 1) := by decide +kernel
theorem dX1_borderNumberAt_27 : decode cX1_borderNumberAt 27 = .ok (.if_icmp .ne 17, 3) := by decide +kernel
theorem dX1_borderNumberAt_30 : decode cX1_borderNumberAt 30 = .ok (.aload_n 0, 1) := by decide +kernel
theorem dX1_borderNumberAt_31 : decode cX1_borderNumberAt 31 = .ok (.invokevirtual 53, 3) := by decide +kernel
theorem dX1_borderNumberAt_34 : decode cX1_borderNumberAt 34 = .ok (.aload_n 0, 1) := by decide +kernel
theorem dX1_borderNumberAt_35 : decode cX1_borderNumberAt 35 = .ok (.getfield 29, 3) := by decide +kernel
theorem dX1_borderNumberAt_38 : decode cX1_borderNumberAt 38 = .ok (.iadd, 1) := by decide +kernel
theorem dX1_borderNumberAt_39 : decode cX1_borderNumberAt 39 = .ok (.iconst 1, 1) := by decide +kernel
theorem dX1_borderNumberAt_40 : decode cX1_borderNumberAt 40 = .ok (.isub, 1) := by decide +kernel
theorem dX1_borderNumberAt_41 : decode cX1_borderNumberAt 41 = .ok (.iload_n 1, 1) := by decide +kernel
theorem dX1_borderNumberAt_42 : decode cX1_borderNumberAt 42 = .ok (.isub, 1) := by decide +kernel
theorem dX1_borderNumberAt_43 : decode cX1_borderNumberAt 43 = .ok (.ireturn, 1) := by decide +kernel
theorem dX1_borderNumberAt_44 : decode cX1_borderNumberAt 44 = .ok (.iconst 2, 1) := by decide +kernel
theorem dX1_borderNumberAt_45 : decode cX1_borderNumberAt 45 = .ok (.aload_n 0, 1) := by decide +kernel
theorem dX1_borderNumberAt_46 : decode cX1_borderNumberAt 46 = .ok (.invokevirtual 53, 3) := by decide +kernel
theorem dX1_borderNumberAt_49 : decode cX1_borderNumberAt 49 = .ok (.imul, 1) := by decide +kernel
theorem dX1_borderNumberAt_50 : decode cX1_borderNumberAt 50 = .ok (.iload_n 2, 1) := by decide +kernel
theorem dX1_borderNumberAt_51 : decode cX1_borderNumberAt 51 = .ok (.isub, 1) := by decide +kernel
theorem dX1_borderNumberAt_52 : decode cX1_borderNumberAt 52 = .ok (.ireturn, 1) := by decide +kernel
theorem dX1_columnOf_0 : decode cX1_columnOf 0 = .ok (.iload_n 1, 1) := by decide +kernel
theorem dX1_columnOf_1 : decode cX1_columnOf 1 = .ok (.aload_n 0, 1) := by decide +kernel
theorem dX1_columnOf_2 : decode cX1_columnOf 2 = .ok (.invokevirtual 53, 3) := by decide +kernel
theorem dX1_columnOf_5 : decode cX1_columnOf 5 = .ok (.if_icmp .ge 14, 3) := by decide +kernel
theorem dX1_columnOf_8 : decode cX1_columnOf 8 = .ok (.iload_n 1, 1) := by decide +kernel
theorem dX1_columnOf_9 : decode cX1_columnOf 9 = .ok (.aload_n 0, 1) := by decide +kernel
theorem dX1_columnOf_10 : decode cX1_columnOf 10 = .ok (.getfield 29, 3) := by decide +kernel
theorem dX1_columnOf_13 : decode cX1_columnOf 13 = .ok (.iconst 1, 1) := by decide +kernel
theorem dX1_columnOf_14 : decode cX1_columnOf 14 = .ok (.isub, 1) := by decide +kernel
theorem dX1_columnOf_15 : decode cX1_columnOf 15 = .ok (.invokestatic 57, 3) := by decide +kernel
theorem dX1_columnOf_18 : decode cX1_columnOf 18 = .ok (.ireturn, 1) := by decide +kernel
theorem dX1_columnOf_19 : decode cX1_columnOf 19 = .ok (.aload_n 0, 1) := by decide +kernel
theorem dX1_columnOf_20 : decode cX1_columnOf 20 = .ok (.getfield 29, 3) := by decide +kernel
theorem dX1_columnOf_23 : decode cX1_columnOf 23 = .ok (.iconst 1, 1) := by decide +kernel
theorem dX1_columnOf_24 : decode cX1_columnOf 24 = .ok (.isub, 1) := by decide +kernel
theorem dX1_columnOf_25 : decode cX1_columnOf 25 = .ok (.iload_n 1, 1) := by decide +kernel
theorem dX1_columnOf_26 : decode cX1_columnOf 26 = .ok (.aload_n 0, 1) := by decide +kernel
theorem dX1_columnOf_27 : decode cX1_columnOf 27 = .ok (.invokevirtual 53, 3) := by decide +kernel
theorem dX1_columnOf_30 : decode cX1_columnOf 30 = .ok (.isub, 1) := by decide +kernel
theorem dX1_columnOf_31 : decode cX1_columnOf 31 = .ok (.isub, 1) := by decide +kernel
theorem dX1_columnOf_32 : decode cX1_columnOf 32 = .ok (.iconst 0, 1) := by decide +kernel
theorem dX1_columnOf_33 : decode cX1_columnOf 33 = .ok (.invokestatic 63, 3) := by decide +kernel
theorem dX1_columnOf_36 : decode cX1_columnOf 36 = .ok (.ireturn, 1) := by decide +kernel
theorem dX1_rowOf_0 : decode cX1_rowOf 0 = .ok (.iload_n 1, 1) := by decide +kernel
theorem dX1_rowOf_1 : decode cX1_rowOf 1 = .ok (.aload_n 0, 1) := by decide +kernel
theorem dX1_rowOf_2 : decode cX1_rowOf 2 = .ok (.invokevirtual 53, 3) := by decide +kernel
theorem dX1_rowOf_5 : decode cX1_rowOf 5 = .ok (.if_icmp .ge 16, 3) := by decide +kernel
theorem dX1_rowOf_8 : decode cX1_rowOf 8 = .ok (.iload_n 1, 1) := by decide +kernel
theorem dX1_rowOf_9 : decode cX1_rowOf 9 = .ok (.aload_n 0, 1) := by decide +kernel
theorem dX1_rowOf_10 : decode cX1_rowOf 10 = .ok (.getfield 29, 3) := by decide +kernel
theorem dX1_rowOf_13 : decode cX1_rowOf 13 = .ok (.iconst 1, 1) := by decide +kernel
theorem dX1_rowOf_14 : decode cX1_rowOf 14 = .ok (.isub, 1) := by decide +kernel
theorem dX1_rowOf_15 : decode cX1_rowOf 15 = .ok (.isub, 1) := by decide +kernel
theorem dX1_rowOf_16 : decode cX1_rowOf 16 = .ok (.iconst 0, 1) := by decide +kernel
theorem dX1_rowOf_17 : decode cX1_rowOf 17 = .ok (.invokestatic 63, 3) := by decide +kernel
theorem dX1_rowOf_20 : decode cX1_rowOf 20 = .ok (.ireturn, 1) := by decide +kernel
theorem dX1_rowOf_21 : decode cX1_rowOf 21 = .ok (.aload_n 0, 1) := by decide +kernel
theorem dX1_rowOf_22 : decode cX1_rowOf 22 = .ok (.invokevirtual 66, 3) := by decide +kernel
theorem dX1_rowOf_25 : decode cX1_rowOf 25 = .ok (.iload_n 1, 1) := by decide +kernel
theorem dX1_rowOf_26 : decode cX1_rowOf 26 = .ok (.isub, 1) := by decide +kernel
theorem dX1_rowOf_27 : decode cX1_rowOf 27 = .ok (.aload_n 0, 1) := by decide +kernel
theorem dX1_rowOf_28 : decode cX1_rowOf 28 = .ok (.getfield 32, 3) := by decide +kernel
theorem dX1_rowOf_31 : decode cX1_rowOf 31 = .ok (.iconst 1, 1) := by decide +kernel
theorem dX1_rowOf_32 : decode cX1_rowOf 32 = .ok (.isub, 1) := by decide +kernel
theorem dX1_rowOf_33 : decode cX1_rowOf 33 = .ok (.invokestatic 57, 3) := by decide +kernel
theorem dX1_rowOf_36 : decode cX1_rowOf 36 = .ok (.ireturn, 1) := by decide +kernel
theorem dX1_wantedAt_0 : decode cX1_wantedAt 0 = .ok (.aload_n 0, 1) := by decide +kernel
theorem dX1_wantedAt_1 : decode cX1_wantedAt 1 = .ok (.iload_n 1, 1) := by decide +kernel
theorem dX1_wantedAt_2 : decode cX1_wantedAt 2 = .ok (.iload_n 2, 1) := by decide +kernel
theorem dX1_wantedAt_3 : decode cX1_wantedAt 3 = .ok (.invokevirtual 69, 3) := by decide +kernel
theorem dX1_wantedAt_6 : decode cX1_wantedAt 6 = .ok (.ifCond .ne 5, 3) := by decide +kernel
theorem dX1_wantedAt_9 : decode cX1_wantedAt 9 = .ok (.iconst (-1), 1) := by decide +kernel
theorem dX1_wantedAt_10 : decode cX1_wantedAt 10 = .ok (.ireturn, 1) := by decide +kernel
theorem dX1_wantedAt_11 : decode cX1_wantedAt 11 = .ok (.aload_n 0, 1) := by decide +kernel
theorem dX1_wantedAt_12 : decode cX1_wantedAt 12 = .ok (.iload_n 1, 1) := by decide +kernel
theorem dX1_wantedAt_13 : decode cX1_wantedAt 13 = .ok (.iload_n 2, 1) := by decide +kernel
theorem dX1_wantedAt_14 : decode cX1_wantedAt 14 = .ok (.invokevirtual 73, 3) := by decide +kernel
theorem dX1_wantedAt_17 : decode cX1_wantedAt 17 = .ok (.ifCond .eq 16, 3) := by decide +kernel
theorem dX1_wantedAt_20 : decode cX1_wantedAt 20 = .ok (.aload_n 0, 1) := by decide +kernel
theorem dX1_wantedAt_21 : decode cX1_wantedAt 21 = .ok (.aload_n 0, 1) := by decide +kernel
theorem dX1_wantedAt_22 : decode cX1_wantedAt 22 = .ok (.iload_n 1, 1) := by decide +kernel
theorem dX1_wantedAt_23 : decode cX1_wantedAt 23 = .ok (.iload_n 2, 1) := by decide +kernel
theorem dX1_wantedAt_24 : decode cX1_wantedAt 24 = .ok (.invokevirtual 76, 3) := by decide +kernel
theorem dX1_wantedAt_27 : decode cX1_wantedAt 27 = .ok (.invokevirtual 79, 3) := by decide +kernel
theorem dX1_wantedAt_30 : decode cX1_wantedAt 30 = .ok (.goto 14, 3) := by decide +kernel
theorem dX1_wantedAt_33 : decode cX1_wantedAt 33 = .ok (.aload_n 0, 1) := by decide +kernel
theorem dX1_wantedAt_34 : decode cX1_wantedAt 34 = .ok (.getfield 9, 3) := by decide +kernel
theorem dX1_wantedAt_37 : decode cX1_wantedAt 37 = .ok (.iload_n 2, 1) := by decide +kernel
theorem dX1_wantedAt_38 : decode cX1_wantedAt 38 = .ok (.bipush 12, 2) := by decide +kernel
theorem dX1_wantedAt_40 : decode cX1_wantedAt 40 = .ok (.imul, 1) := by decide +kernel
theorem dX1_wantedAt_41 : decode cX1_wantedAt 41 = .ok (.iload_n 1, 1) := by decide +kernel
theorem dX1_wantedAt_42 : decode cX1_wantedAt 42 = .ok (.iadd, 1) := by decide +kernel
theorem dX1_wantedAt_43 : decode cX1_wantedAt 43 = .ok (.iaload, 1) := by decide +kernel
theorem dX1_wantedAt_44 : decode cX1_wantedAt 44 = .ok (.ireturn, 1) := by decide +kernel
theorem dX1_wantInField_0 : decode cX1_wantInField 0 = .ok (.aload_n 0, 1) := by decide +kernel
theorem dX1_wantInField_1 : decode cX1_wantInField 1 = .ok (.iload_n 1, 1) := by decide +kernel
theorem dX1_wantInField_2 : decode cX1_wantInField 2 = .ok (.iload_n 2, 1) := by decide +kernel
theorem dX1_wantInField_3 : decode cX1_wantInField 3 = .ok (.invokevirtual 69, 3) := by decide +kernel
theorem dX1_wantInField_6 : decode cX1_wantInField 6 = .ok (.ifCond .eq 15, 3) := by decide +kernel
theorem dX1_wantInField_9 : decode cX1_wantInField 9 = .ok (.aload_n 0, 1) := by decide +kernel
theorem dX1_wantInField_10 : decode cX1_wantInField 10 = .ok (.getfield 9, 3) := by decide +kernel
theorem dX1_wantInField_13 : decode cX1_wantInField 13 = .ok (.iload_n 2, 1) := by decide +kernel
theorem dX1_wantInField_14 : decode cX1_wantInField 14 = .ok (.bipush 12, 2) := by decide +kernel
theorem dX1_wantInField_16 : decode cX1_wantInField 16 = .ok (.imul, 1) := by decide +kernel
theorem dX1_wantInField_17 : decode cX1_wantInField 17 = .ok (.iload_n 1, 1) := by decide +kernel
theorem dX1_wantInField_18 : decode cX1_wantInField 18 = .ok (.iadd, 1) := by decide +kernel
theorem dX1_wantInField_19 : decode cX1_wantInField 19 = .ok (.iload_n 3, 1) := by decide +kernel
theorem dX1_wantInField_20 : decode cX1_wantInField 20 = .ok (.iastore, 1) := by decide +kernel
theorem dX1_wantInField_21 : decode cX1_wantInField 21 = .ok (.return_, 1) := by decide +kernel
theorem dX1_wantedInBorder_0 : decode cX1_wantedInBorder 0 = .ok (.iload_n 1, 1) := by decide +kernel
theorem dX1_wantedInBorder_1 : decode cX1_wantedInBorder 1 = .ok (.aload_n 0, 1) := by decide +kernel
theorem dX1_wantedInBorder_2 : decode cX1_wantedInBorder 2 = .ok (.invokevirtual 53, 3) := by decide +kernel
theorem dX1_wantedInBorder_5 : decode cX1_wantedInBorder 5 = .ok (.if_icmp .ge 7, 3) := by decide +kernel
theorem dX1_wantedInBorder_8 : decode cX1_wantedInBorder 8 = .ok (.iload_n 1, 1) := by decide +kernel
theorem dX1_wantedInBorder_9 : decode cX1_wantedInBorder 9 = .ok (.goto 9, 3) := by decide +kernel
theorem dX1_wantedInBorder_12 : decode cX1_wantedInBorder 12 = .ok (.iload_n 1, 1) := by decide +kernel
theorem dX1_wantedInBorder_13 : decode cX1_wantedInBorder 13 = .ok (.aload_n 0, 1) := by decide +kernel
theorem dX1_wantedInBorder_14 : decode cX1_wantedInBorder 14 = .ok (.invokevirtual 53, 3) := by decide +kernel
theorem dX1_wantedInBorder_17 : decode cX1_wantedInBorder 17 = .ok (.isub, 1) := by decide +kernel
theorem dX1_wantedInBorder_18 : decode cX1_wantedInBorder 18 = .ok (.istore_n 2, 1) := by decide +kernel
theorem dX1_wantedInBorder_19 : decode cX1_wantedInBorder 19 = .ok (.iload_n 2, 1) := by decide +kernel
theorem dX1_wantedInBorder_20 : decode cX1_wantedInBorder 20 = .ok (.aload_n 0, 1) := by decide +kernel
theorem dX1_wantedInBorder_21 : decode cX1_wantedInBorder 21 = .ok (.getfield 29, 3) := by decide +kernel
theorem dX1_wantedInBorder_24 : decode cX1_wantedInBorder 24 = .ok (.iconst 1, 1) := by decide +kernel
theorem dX1_wantedInBorder_25 : decode cX1_wantedInBorder 25 = .ok (.isub, 1) := by decide +kernel
theorem dX1_wantedInBorder_26 : decode cX1_wantedInBorder 26 = .ok (.if_icmp .ge 7, 3) := by decide +kernel
theorem dX1_wantedInBorder_29 : decode cX1_wantedInBorder 29 = .ok (.iconst 1, 1) := by decide +kernel
theorem dX1_wantedInBorder_30 : decode cX1_wantedInBorder 30 = .ok (.goto 4, 3) := by decide +kernel
theorem dX1_wantedInBorder_33 : decode cX1_wantedInBorder 33 = .ok (.iconst 0, 1) := by decide +kernel
theorem dX1_wantedInBorder_34 : decode cX1_wantedInBorder 34 = .ok (.istore_n 3, 1) := by decide +kernel
theorem dX1_wantedInBorder_35 : decode cX1_wantedInBorder 35 = .ok (.iload_n 3, 1) := by decide +kernel
theorem dX1_wantedInBorder_36 : decode cX1_wantedInBorder 36 = .ok (.ifCond .eq 12, 3) := by decide +kernel
theorem dX1_wantedInBorder_39 : decode cX1_wantedInBorder 39 = .ok (.aload_n 0, 1) := by decide +kernel
theorem dX1_wantedInBorder_40 : decode cX1_wantedInBorder 40 = .ok (.getfield 29, 3) := by decide +kernel
theorem dX1_wantedInBorder_43 : decode cX1_wantedInBorder 43 = .ok (.iconst 1, 1) := by decide +kernel
theorem dX1_wantedInBorder_44 : decode cX1_wantedInBorder 44 = .ok (.isub, 1) := by decide +kernel
theorem dX1_wantedInBorder_45 : decode cX1_wantedInBorder 45 = .ok (.goto 9, 3) := by decide +kernel
theorem dX1_wantedInBorder_48 : decode cX1_wantedInBorder 48 = .ok (.aload_n 0, 1) := by decide +kernel
theorem dX1_wantedInBorder_49 : decode cX1_wantedInBorder 49 = .ok (.getfield 32, 3) := by decide +kernel
theorem dX1_wantedInBorder_52 : decode cX1_wantedInBorder 52 = .ok (.iconst 1, 1) := by decide +kernel
theorem dX1_wantedInBorder_53 : decode cX1_wantedInBorder 53 = .ok (.isub, 1) := by decide +kernel
theorem dX1_wantedInBorder_54 : decode cX1_wantedInBorder 54 = .ok (.istore 4, 2) := by decide +kernel
theorem dX1_wantedInBorder_56 : decode cX1_wantedInBorder 56 = .ok (.iload_n 3, 1) := by decide +kernel
theorem dX1_wantedInBorder_57 : decode cX1_wantedInBorder 57 = .ok (.ifCond .eq 7, 3) := by decide +kernel
theorem dX1_wantedInBorder_60 : decode cX1_wantedInBorder 60 = .ok (.iload_n 2, 1) := by decide +kernel
theorem dX1_wantedInBorder_61 : decode cX1_wantedInBorder 61 = .ok (.goto 11, 3) := by decide +kernel
theorem dX1_wantedInBorder_64 : decode cX1_wantedInBorder 64 = .ok (.iload_n 2, 1) := by decide +kernel
theorem dX1_wantedInBorder_65 : decode cX1_wantedInBorder 65 = .ok (.aload_n 0, 1) := by decide +kernel
theorem dX1_wantedInBorder_66 : decode cX1_wantedInBorder 66 = .ok (.getfield 29, 3) := by decide +kernel
theorem dX1_wantedInBorder_69 : decode cX1_wantedInBorder 69 = .ok (.iconst 1, 1) := by decide +kernel
theorem dX1_wantedInBorder_70 : decode cX1_wantedInBorder 70 = .ok (.isub, 1) := by decide +kernel
theorem dX1_wantedInBorder_71 : decode cX1_wantedInBorder 71 = .ok (.isub, 1) := by decide +kernel
theorem dX1_wantedInBorder_72 : decode cX1_wantedInBorder 72 = .ok (.istore 5, 2) := by decide +kernel
theorem dX1_wantedInBorder_74 : decode cX1_wantedInBorder 74 = .ok (.aload_n 0, 1) := by decide +kernel
theorem dX1_wantedInBorder_75 : decode cX1_wantedInBorder 75 = .ok (.getfield 22, 3) := by decide +kernel
theorem dX1_wantedInBorder_78 : decode cX1_wantedInBorder 78 = .ok (.lookupswitch 63 #[(1, 26), (2, 41)], 26) := by decide +kernel
theorem dX1_wantedInBorder_104 : decode cX1_wantedInBorder 104 = .ok (.aload_n 0, 1) := by decide +kernel
theorem dX1_wantedInBorder_105 : decode cX1_wantedInBorder 105 = .ok (.iload 5, 2) := by decide +kernel
theorem dX1_wantedInBorder_107 : decode cX1_wantedInBorder 107 = .ok (.iload 4, 2) := by decide +kernel
theorem dX1_wantedInBorder_109 : decode cX1_wantedInBorder 109 = .ok (.iload 5, 2) := by decide +kernel
theorem dX1_wantedInBorder_111 : decode cX1_wantedInBorder 111 = .ok (.isub, 1) := by decide +kernel
theorem dX1_wantedInBorder_112 : decode cX1_wantedInBorder 112 = .ok (.invokestatic 57, 3) := by decide +kernel
theorem dX1_wantedInBorder_115 : decode cX1_wantedInBorder 115 = .ok (.invokevirtual 83, 3) := by decide +kernel
theorem dX1_wantedInBorder_118 : decode cX1_wantedInBorder 118 = .ok (.ireturn, 1) := by decide +kernel
theorem dX1_wantedInBorder_119 : decode cX1_wantedInBorder 119 = .ok (.aload_n 0, 1) := by decide +kernel
theorem dX1_wantedInBorder_120 : decode cX1_wantedInBorder 120 = .ok (.iload 5, 2) := by decide +kernel
theorem dX1_wantedInBorder_122 : decode cX1_wantedInBorder 122 = .ok (.aload_n 0, 1) := by decide +kernel
theorem dX1_wantedInBorder_123 : decode cX1_wantedInBorder 123 = .ok (.iload 4, 2) := by decide +kernel
theorem dX1_wantedInBorder_125 : decode cX1_wantedInBorder 125 = .ok (.invokevirtual 86, 3) := by decide +kernel
theorem dX1_wantedInBorder_128 : decode cX1_wantedInBorder 128 = .ok (.if_icmp .ge 8, 3) := by decide +kernel
theorem dX1_wantedInBorder_131 : decode cX1_wantedInBorder 131 = .ok (.iload 5, 2) := by decide +kernel
theorem dX1_wantedInBorder_133 : decode cX1_wantedInBorder 133 = .ok (.goto 4, 3) := by decide +kernel
theorem dX1_wantedInBorder_136 : decode cX1_wantedInBorder 136 = .ok (.iconst 0, 1) := by decide +kernel
theorem dX1_wantedInBorder_137 : decode cX1_wantedInBorder 137 = .ok (.invokevirtual 83, 3) := by decide +kernel
theorem dX1_wantedInBorder_140 : decode cX1_wantedInBorder 140 = .ok (.ireturn, 1) := by decide +kernel
theorem dX1_wantedInBorder_141 : decode cX1_wantedInBorder 141 = .ok (.aload_n 0, 1) := by decide +kernel
theorem dX1_wantedInBorder_142 : decode cX1_wantedInBorder 142 = .ok (.iload_n 1, 1) := by decide +kernel
theorem dX1_wantedInBorder_143 : decode cX1_wantedInBorder 143 = .ok (.invokevirtual 83, 3) := by decide +kernel
theorem dX1_wantedInBorder_146 : decode cX1_wantedInBorder 146 = .ok (.ireturn, 1) := by decide +kernel
theorem dX1_cellsOfWholePatterns_0 : decode cX1_cellsOfWholePatterns 0 = .ok (.aload_n 0, 1) := by decide +kernel
theorem dX1_cellsOfWholePatterns_1 : decode cX1_cellsOfWholePatterns 1 = .ok (.getfield 18, 3) := by decide +kernel
theorem dX1_cellsOfWholePatterns_4 : decode cX1_cellsOfWholePatterns 4 = .ok (.ifCond .le 14, 3) := by decide +kernel
theorem dX1_cellsOfWholePatterns_7 : decode cX1_cellsOfWholePatterns 7 = .ok (.iload_n 1, 1) := by decide +kernel
theorem dX1_cellsOfWholePatterns_8 : decode cX1_cellsOfWholePatterns 8 = .ok (.iload_n 1, 1) := by decide +kernel
theorem dX1_cellsOfWholePatterns_9 : decode cX1_cellsOfWholePatterns 9 = .ok (.aload_n 0, 1) := by decide +kernel
theorem dX1_cellsOfWholePatterns_10 : decode cX1_cellsOfWholePatterns 10 = .ok (.getfield 18, 3) := by decide +kernel
theorem dX1_cellsOfWholePatterns_13 : decode cX1_cellsOfWholePatterns 13 = .ok (.irem, 1) := by decide +kernel
theorem dX1_cellsOfWholePatterns_14 : decode cX1_cellsOfWholePatterns 14 = .ok (.isub, 1) := by decide +kernel
theorem dX1_cellsOfWholePatterns_15 : decode cX1_cellsOfWholePatterns 15 = .ok (.goto 4, 3) := by decide +kernel
theorem dX1_cellsOfWholePatterns_18 : decode cX1_cellsOfWholePatterns 18 = .ok (.iconst 0, 1) := by decide +kernel
theorem dX1_cellsOfWholePatterns_19 : decode cX1_cellsOfWholePatterns 19 = .ok (.ireturn, 1) := by decide +kernel
theorem dX1_patternShade_0 : decode cX1_patternShade 0 = .ok (.iload_n 1, 1) := by decide +kernel
theorem dX1_patternShade_1 : decode cX1_patternShade 1 = .ok (.ifCond .lt 10, 3) := by decide +kernel
theorem dX1_patternShade_4 : decode cX1_patternShade 4 = .ok (.aload_n 0, 1) := by decide +kernel
theorem dX1_patternShade_5 : decode cX1_patternShade 5 = .ok (.getfield 18, 3) := by decide +kernel
theorem dX1_patternShade_8 : decode cX1_patternShade 8 = .ok (.ifCond .gt 5, 3) := by decide +kernel
theorem dX1_patternShade_11 : decode cX1_patternShade 11 = .ok (.iconst (-1), 1) := by decide +kernel
theorem dX1_patternShade_12 : decode cX1_patternShade 12 = .ok (.ireturn, 1) := by decide +kernel
theorem dX1_patternShade_13 : decode cX1_patternShade 13 = .ok (.iload_n 1, 1) := by decide +kernel
theorem dX1_patternShade_14 : decode cX1_patternShade 14 = .ok (.aload_n 0, 1) := by decide +kernel
theorem dX1_patternShade_15 : decode cX1_patternShade 15 = .ok (.getfield 18, 3) := by decide +kernel
theorem dX1_patternShade_18 : decode cX1_patternShade 18 = .ok (.irem, 1) := by decide +kernel
theorem dX1_patternShade_19 : decode cX1_patternShade 19 = .ok (.istore_n 2, 1) := by decide +kernel
theorem dX1_patternShade_20 : decode cX1_patternShade 20 = .ok (.iload_n 2, 1) := by decide +kernel
theorem dX1_patternShade_21 : decode cX1_patternShade 21 = .ok (.aload_n 0, 1) := by decide +kernel
theorem dX1_patternShade_22 : decode cX1_patternShade 22 = .ok (.getfield 15, 3) := by decide +kernel
theorem dX1_patternShade_25 : decode cX1_patternShade 25 = .ok (.arraylength, 1) := by decide +kernel
theorem dX1_patternShade_26 : decode cX1_patternShade 26 = .ok (.if_icmp .ge 12, 3) := by decide +kernel
theorem dX1_patternShade_29 : decode cX1_patternShade 29 = .ok (.aload_n 0, 1) := by decide +kernel
theorem dX1_patternShade_30 : decode cX1_patternShade 30 = .ok (.getfield 15, 3) := by decide +kernel
theorem dX1_patternShade_33 : decode cX1_patternShade 33 = .ok (.iload_n 2, 1) := by decide +kernel
theorem dX1_patternShade_34 : decode cX1_patternShade 34 = .ok (.iaload, 1) := by decide +kernel
theorem dX1_patternShade_35 : decode cX1_patternShade 35 = .ok (.goto 4, 3) := by decide +kernel
theorem dX1_patternShade_38 : decode cX1_patternShade 38 = .ok (.iconst (-1), 1) := by decide +kernel
theorem dX1_patternShade_39 : decode cX1_patternShade 39 = .ok (.ireturn, 1) := by decide +kernel
theorem dX1_borderMeets_0 : decode cX1_borderMeets 0 = .ok (.aload_n 0, 1) := by decide +kernel
theorem dX1_borderMeets_1 : decode cX1_borderMeets 1 = .ok (.invokevirtual 89, 3) := by decide +kernel
theorem dX1_borderMeets_4 : decode cX1_borderMeets 4 = .ok (.ifCond .eq 5, 3) := by decide +kernel
theorem dX1_borderMeets_7 : decode cX1_borderMeets 7 = .ok (.iconst 1, 1) := by decide +kernel
theorem dX1_borderMeets_8 : decode cX1_borderMeets 8 = .ok (.ireturn, 1) := by decide +kernel
theorem dX1_borderMeets_9 : decode cX1_borderMeets 9 = .ok (.aload_n 0, 1) := by decide +kernel
theorem dX1_borderMeets_10 : decode cX1_borderMeets 10 = .ok (.aload_n 0, 1) := by decide +kernel
theorem dX1_borderMeets_11 : decode cX1_borderMeets 11 = .ok (.invokevirtual 66, 3) := by decide +kernel
theorem dX1_borderMeets_14 : decode cX1_borderMeets 14 = .ok (.iconst 1, 1) := by decide +kernel
theorem dX1_borderMeets_15 : decode cX1_borderMeets 15 = .ok (.isub, 1) := by decide +kernel
theorem dX1_borderMeets_16 : decode cX1_borderMeets 16 = .ok (.invokevirtual 79, 3) := by decide +kernel
theorem dX1_borderMeets_19 : decode cX1_borderMeets 19 = .ok (.istore_n 1, 1) := by decide +kernel
theorem dX1_borderMeets_20 : decode cX1_borderMeets 20 = .ok (.iconst 0, 1) := by decide +kernel
theorem dX1_borderMeets_21 : decode cX1_borderMeets 21 = .ok (.istore_n 2, 1) := by decide +kernel
theorem dX1_borderMeets_22 : decode cX1_borderMeets 22 = .ok (.iload_n 2, 1) := by decide +kernel
theorem dX1_borderMeets_23 : decode cX1_borderMeets 23 = .ok (.aload_n 0, 1) := by decide +kernel
theorem dX1_borderMeets_24 : decode cX1_borderMeets 24 = .ok (.invokevirtual 66, 3) := by decide +kernel
theorem dX1_borderMeets_27 : decode cX1_borderMeets 27 = .ok (.if_icmp .ge 24, 3) := by decide +kernel
theorem dX1_borderMeets_30 : decode cX1_borderMeets 30 = .ok (.aload_n 0, 1) := by decide +kernel
theorem dX1_borderMeets_31 : decode cX1_borderMeets 31 = .ok (.iload_n 2, 1) := by decide +kernel
theorem dX1_borderMeets_32 : decode cX1_borderMeets 32 = .ok (.invokevirtual 79, 3) := by decide +kernel
theorem dX1_borderMeets_35 : decode cX1_borderMeets 35 = .ok (.istore_n 3, 1) := by decide +kernel
theorem dX1_borderMeets_36 : decode cX1_borderMeets 36 = .ok (.iload_n 3, 1) := by decide +kernel
theorem dX1_borderMeets_37 : decode cX1_borderMeets 37 = .ok (.iload_n 1, 1) := by decide +kernel
theorem dX1_borderMeets_38 : decode cX1_borderMeets 38 = .ok (.if_icmp .ne 5, 3) := by decide +kernel
theorem dX1_borderMeets_41 : decode cX1_borderMeets 41 = .ok (.iconst 0, 1) := by decide +kernel
theorem dX1_borderMeets_42 : decode cX1_borderMeets 42 = .ok (.ireturn, 1) := by decide +kernel
theorem dX1_borderMeets_43 : decode cX1_borderMeets 43 = .ok (.iload_n 3, 1) := by decide +kernel
theorem dX1_borderMeets_44 : decode cX1_borderMeets 44 = .ok (.istore_n 1, 1) := by decide +kernel
theorem dX1_borderMeets_45 : decode cX1_borderMeets 45 = .ok (.iinc 2 1, 3) := by decide +kernel
theorem dX1_borderMeets_48 : decode cX1_borderMeets 48 = .ok (.goto (-26), 3) := by decide +kernel
theorem dX1_borderMeets_51 : decode cX1_borderMeets 51 = .ok (.iconst 1, 1) := by decide +kernel
theorem dX1_borderMeets_52 : decode cX1_borderMeets 52 = .ok (.ireturn, 1) := by decide +kernel
theorem dX1_patternHasOneShade_0 : decode cX1_patternHasOneShade 0 = .ok (.iconst 1, 1) := by decide +kernel
theorem dX1_patternHasOneShade_1 : decode cX1_patternHasOneShade 1 = .ok (.istore_n 1, 1) := by decide +kernel
theorem dX1_patternHasOneShade_2 : decode cX1_patternHasOneShade 2 = .ok (.iload_n 1, 1) := by decide +kernel
theorem dX1_patternHasOneShade_3 : decode cX1_patternHasOneShade 3 = .ok (.aload_n 0, 1) := by decide +kernel
theorem dX1_patternHasOneShade_4 : decode cX1_patternHasOneShade 4 = .ok (.getfield 18, 3) := by decide +kernel
theorem dX1_patternHasOneShade_7 : decode cX1_patternHasOneShade 7 = .ok (.if_icmp .ge 24, 3) := by decide +kernel
theorem dX1_patternHasOneShade_10 : decode cX1_patternHasOneShade 10 = .ok (.aload_n 0, 1) := by decide +kernel
theorem dX1_patternHasOneShade_11 : decode cX1_patternHasOneShade 11 = .ok (.iload_n 1, 1) := by decide +kernel
theorem dX1_patternHasOneShade_12 : decode cX1_patternHasOneShade 12 = .ok (.invokevirtual 83, 3) := by decide +kernel
theorem dX1_patternHasOneShade_15 : decode cX1_patternHasOneShade 15 = .ok (.aload_n 0, 1) := by decide +kernel
theorem dX1_patternHasOneShade_16 : decode cX1_patternHasOneShade 16 = .ok (.iconst 0, 1) := by decide +kernel
theorem dX1_patternHasOneShade_17 : decode cX1_patternHasOneShade 17 = .ok (.invokevirtual 83, 3) := by decide +kernel
theorem dX1_patternHasOneShade_20 : decode cX1_patternHasOneShade 20 = .ok (.if_icmp .eq 5, 3) := by decide +kernel
theorem dX1_patternHasOneShade_23 : decode cX1_patternHasOneShade 23 = .ok (.iconst 0, 1) := by decide +kernel
theorem dX1_patternHasOneShade_24 : decode cX1_patternHasOneShade 24 = .ok (.ireturn, 1) := by decide +kernel
theorem dX1_patternHasOneShade_25 : decode cX1_patternHasOneShade 25 = .ok (.iinc 1 1, 3) := by decide +kernel
theorem dX1_patternHasOneShade_28 : decode cX1_patternHasOneShade 28 = .ok (.goto (-26), 3) := by decide +kernel
theorem dX1_patternHasOneShade_31 : decode cX1_patternHasOneShade 31 = .ok (.iconst 1, 1) := by decide +kernel
theorem dX1_patternHasOneShade_32 : decode cX1_patternHasOneShade 32 = .ok (.ireturn, 1) := by decide +kernel
theorem dX2_init_0 : decode cX2_init 0 = .ok (.aload_n 0, 1) := by decide +kernel
theorem dX2_init_1 : decode cX2_init 1 = .ok (.invokespecial 3, 3) := by decide +kernel
theorem dX2_init_4 : decode cX2_init 4 = .ok (.aload_n 0, 1) := by decide +kernel
theorem dX2_init_5 : decode cX2_init 5 = .ok (.new 9, 3) := by decide +kernel
theorem dX2_init_8 : decode cX2_init 8 = .ok (.dup, 1) := by decide +kernel
theorem dX2_init_9 : decode cX2_init 9 = .ok (.invokespecial 11, 3) := by decide +kernel
theorem dX2_init_12 : decode cX2_init 12 = .ok (.putfield 12, 3) := by decide +kernel
theorem dX2_init_15 : decode cX2_init 15 = .ok (.aload_n 0, 1) := by decide +kernel
theorem dX2_init_16 : decode cX2_init 16 = .ok (.new 18, 3) := by decide +kernel
theorem dX2_init_19 : decode cX2_init 19 = .ok (.dup, 1) := by decide +kernel
theorem dX2_init_20 : decode cX2_init 20 = .ok (.invokespecial 20, 3) := by decide +kernel
theorem dX2_init_23 : decode cX2_init 23 = .ok (.putfield 21, 3) := by decide +kernel
theorem dX2_init_26 : decode cX2_init 26 = .ok (.aload_n 0, 1) := by decide +kernel
theorem dX2_init_27 : decode cX2_init 27 = .ok (.sipush 144, 3) := by decide +kernel
theorem dX2_init_30 : decode cX2_init 30 = .ok (.newarray .int, 2) := by decide +kernel
theorem dX2_init_32 : decode cX2_init 32 = .ok (.putfield 25, 3) := by decide +kernel
theorem dX2_init_35 : decode cX2_init 35 = .ok (.aload_n 0, 1) := by decide +kernel
theorem dX2_init_36 : decode cX2_init 36 = .ok (.getfield 25, 3) := by decide +kernel
theorem dX2_init_39 : decode cX2_init 39 = .ok (.iconst (-1), 1) := by decide +kernel
theorem dX2_init_40 : decode cX2_init 40 = .ok (.invokestatic 29, 3) := by decide +kernel
theorem dX2_init_43 : decode cX2_init 43 = .ok (.return_, 1) := by decide +kernel
theorem dX2_copyFrom_0 : decode cX2_copyFrom 0 = .ok (.aload_n 0, 1) := by decide +kernel
theorem dX2_copyFrom_1 : decode cX2_copyFrom 1 = .ok (.getfield 12, 3) := by decide +kernel
theorem dX2_copyFrom_4 : decode cX2_copyFrom 4 = .ok (.aload_n 1, 1) := by decide +kernel
theorem dX2_copyFrom_5 : decode cX2_copyFrom 5 = .ok (.getfield 12, 3) := by decide +kernel
theorem dX2_copyFrom_8 : decode cX2_copyFrom 8 = .ok (.invokevirtual 35, 3) := by decide +kernel
theorem dX2_copyFrom_11 : decode cX2_copyFrom 11 = .ok (.aload_n 0, 1) := by decide +kernel
theorem dX2_copyFrom_12 : decode cX2_copyFrom 12 = .ok (.getfield 21, 3) := by decide +kernel
theorem dX2_copyFrom_15 : decode cX2_copyFrom 15 = .ok (.aload_n 1, 1) := by decide +kernel
theorem dX2_copyFrom_16 : decode cX2_copyFrom 16 = .ok (.getfield 21, 3) := by decide +kernel
theorem dX2_copyFrom_19 : decode cX2_copyFrom 19 = .ok (.invokevirtual 39, 3) := by decide +kernel
theorem dX2_copyFrom_22 : decode cX2_copyFrom 22 = .ok (.aload_n 1, 1) := by decide +kernel
theorem dX2_copyFrom_23 : decode cX2_copyFrom 23 = .ok (.getfield 25, 3) := by decide +kernel
theorem dX2_copyFrom_26 : decode cX2_copyFrom 26 = .ok (.iconst 0, 1) := by decide +kernel
theorem dX2_copyFrom_27 : decode cX2_copyFrom 27 = .ok (.aload_n 0, 1) := by decide +kernel
theorem dX2_copyFrom_28 : decode cX2_copyFrom 28 = .ok (.getfield 25, 3) := by decide +kernel
theorem dX2_copyFrom_31 : decode cX2_copyFrom 31 = .ok (.iconst 0, 1) := by decide +kernel
theorem dX2_copyFrom_32 : decode cX2_copyFrom 32 = .ok (.aload_n 0, 1) := by decide +kernel
theorem dX2_copyFrom_33 : decode cX2_copyFrom 33 = .ok (.getfield 25, 3) := by decide +kernel
theorem dX2_copyFrom_36 : decode cX2_copyFrom 36 = .ok (.arraylength, 1) := by decide +kernel
theorem dX2_copyFrom_37 : decode cX2_copyFrom 37 = .ok (.invokestatic 42, 3) := by decide +kernel
theorem dX2_copyFrom_40 : decode cX2_copyFrom 40 = .ok (.aload_n 0, 1) := by decide +kernel
theorem dX2_copyFrom_41 : decode cX2_copyFrom 41 = .ok (.aload_n 1, 1) := by decide +kernel
theorem dX2_copyFrom_42 : decode cX2_copyFrom 42 = .ok (.getfield 48, 3) := by decide +kernel
theorem dX2_copyFrom_45 : decode cX2_copyFrom 45 = .ok (.putfield 48, 3) := by decide +kernel
theorem dX2_copyFrom_48 : decode cX2_copyFrom 48 = .ok (.return_, 1) := by decide +kernel
theorem dX2_laidOrNone_0 : decode cX2_laidOrNone 0 = .ok (.aload_n 0, 1) := by decide +kernel
theorem dX2_laidOrNone_1 : decode cX2_laidOrNone 1 = .ok (.getfield 12, 3) := by decide +kernel
theorem dX2_laidOrNone_4 : decode cX2_laidOrNone 4 = .ok (.iload_n 1, 1) := by decide +kernel
theorem dX2_laidOrNone_5 : decode cX2_laidOrNone 5 = .ok (.iload_n 2, 1) := by decide +kernel
theorem dX2_laidOrNone_6 : decode cX2_laidOrNone 6 = .ok (.invokevirtual 52, 3) := by decide +kernel
theorem dX2_laidOrNone_9 : decode cX2_laidOrNone 9 = .ok (.ifCond .eq 17, 3) := by decide +kernel
theorem dX2_laidOrNone_12 : decode cX2_laidOrNone 12 = .ok (.aload_n 0, 1) := by decide +kernel
theorem dX2_laidOrNone_13 : decode cX2_laidOrNone 13 = .ok (.getfield 25, 3) := by decide +kernel
theorem dX2_laidOrNone_16 : decode cX2_laidOrNone 16 = .ok (.iload_n 2, 1) := by decide +kernel
theorem dX2_laidOrNone_17 : decode cX2_laidOrNone 17 = .ok (.bipush 12, 2) := by decide +kernel
theorem dX2_laidOrNone_19 : decode cX2_laidOrNone 19 = .ok (.imul, 1) := by decide +kernel
theorem dX2_laidOrNone_20 : decode cX2_laidOrNone 20 = .ok (.iload_n 1, 1) := by decide +kernel
theorem dX2_laidOrNone_21 : decode cX2_laidOrNone 21 = .ok (.iadd, 1) := by decide +kernel
theorem dX2_laidOrNone_22 : decode cX2_laidOrNone 22 = .ok (.iaload, 1) := by decide +kernel
theorem dX2_laidOrNone_23 : decode cX2_laidOrNone 23 = .ok (.goto 4, 3) := by decide +kernel
theorem dX2_laidOrNone_26 : decode cX2_laidOrNone 26 = .ok (.iconst (-1), 1) := by decide +kernel
theorem dX2_laidOrNone_27 : decode cX2_laidOrNone 27 = .ok (.ireturn, 1) := by decide +kernel
theorem dX2_putAt_0 : decode cX2_putAt 0 = .ok (.aload_n 0, 1) := by decide +kernel
theorem dX2_putAt_1 : decode cX2_putAt 1 = .ok (.getfield 12, 3) := by decide +kernel
theorem dX2_putAt_4 : decode cX2_putAt 4 = .ok (.iload_n 1, 1) := by decide +kernel
theorem dX2_putAt_5 : decode cX2_putAt 5 = .ok (.iload_n 2, 1) := by decide +kernel
theorem dX2_putAt_6 : decode cX2_putAt 6 = .ok (.invokevirtual 52, 3) := by decide +kernel
theorem dX2_putAt_9 : decode cX2_putAt 9 = .ok (.ifCond .eq 15, 3) := by decide +kernel
theorem dX2_putAt_12 : decode cX2_putAt 12 = .ok (.aload_n 0, 1) := by decide +kernel
theorem dX2_putAt_13 : decode cX2_putAt 13 = .ok (.getfield 25, 3) := by decide +kernel
theorem dX2_putAt_16 : decode cX2_putAt 16 = .ok (.iload_n 2, 1) := by decide +kernel
theorem dX2_putAt_17 : decode cX2_putAt 17 = .ok (.bipush 12, 2) := by decide +kernel
theorem dX2_putAt_19 : decode cX2_putAt 19 = .ok (.imul, 1) := by decide +kernel
theorem dX2_putAt_20 : decode cX2_putAt 20 = .ok (.iload_n 1, 1) := by decide +kernel
theorem dX2_putAt_21 : decode cX2_putAt 21 = .ok (.iadd, 1) := by decide +kernel
theorem dX2_putAt_22 : decode cX2_putAt 22 = .ok (.iload_n 3, 1) := by decide +kernel
theorem dX2_putAt_23 : decode cX2_putAt 23 = .ok (.iastore, 1) := by decide +kernel
theorem dX2_putAt_24 : decode cX2_putAt 24 = .ok (.return_, 1) := by decide +kernel
theorem dX2_isLaid_0 : decode cX2_isLaid 0 = .ok (.aload_n 0, 1) := by decide +kernel
theorem dX2_isLaid_1 : decode cX2_isLaid 1 = .ok (.iload_n 1, 1) := by decide +kernel
theorem dX2_isLaid_2 : decode cX2_isLaid 2 = .ok (.iload_n 2, 1) := by decide +kernel
theorem dX2_isLaid_3 : decode cX2_isLaid 3 = .ok (.invokevirtual 56, 3) := by decide +kernel
theorem dX2_isLaid_6 : decode cX2_isLaid 6 = .ok (.iconst (-1), 1) := by decide +kernel
theorem dX2_isLaid_7 : decode cX2_isLaid 7 = .ok (.if_icmp .eq 7, 3) := by decide +kernel
theorem dX2_isLaid_10 : decode cX2_isLaid 10 = .ok (.iconst 1, 1) := by decide +kernel
theorem dX2_isLaid_11 : decode cX2_isLaid 11 = .ok (.goto 4, 3) := by decide +kernel
theorem dX2_isLaid_14 : decode cX2_isLaid 14 = .ok (.iconst 0, 1) := by decide +kernel
theorem dX2_isLaid_15 : decode cX2_isLaid 15 = .ok (.ireturn, 1) := by decide +kernel
theorem dX2_differenceAt_0 : decode cX2_differenceAt 0 = .ok (.aload_n 0, 1) := by decide +kernel
theorem dX2_differenceAt_1 : decode cX2_differenceAt 1 = .ok (.iload_n 1, 1) := by decide +kernel
theorem dX2_differenceAt_2 : decode cX2_differenceAt 2 = .ok (.iload_n 2, 1) := by decide +kernel
theorem dX2_differenceAt_3 : decode cX2_differenceAt 3 = .ok (.invokevirtual 60, 3) := by decide +kernel
theorem dX2_differenceAt_6 : decode cX2_differenceAt 6 = .ok (.ifCond .eq 25, 3) := by decide +kernel
theorem dX2_differenceAt_9 : decode cX2_differenceAt 9 = .ok (.aload_n 0, 1) := by decide +kernel
theorem dX2_differenceAt_10 : decode cX2_differenceAt 10 = .ok (.getfield 12, 3) := by decide +kernel
theorem dX2_differenceAt_13 : decode cX2_differenceAt 13 = .ok (.iload_n 1, 1) := by decide +kernel
theorem dX2_differenceAt_14 : decode cX2_differenceAt 14 = .ok (.iload_n 2, 1) := by decide +kernel
theorem dX2_differenceAt_15 : decode cX2_differenceAt 15 = .ok (.invokevirtual 63, 3) := by decide +kernel
theorem dX2_differenceAt_18 : decode cX2_differenceAt 18 = .ok (.aload_n 0, 1) := by decide +kernel
theorem dX2_differenceAt_19 : decode cX2_differenceAt 19 = .ok (.iload_n 1, 1) := by decide +kernel
theorem dX2_differenceAt_20 : decode cX2_differenceAt 20 = .ok (.iload_n 2, 1) := by decide +kernel
theorem dX2_differenceAt_21 : decode cX2_differenceAt 21 = .ok (.invokevirtual 56, 3) := by decide +kernel
theorem dX2_differenceAt_24 : decode cX2_differenceAt 24 = .ok (.isub, 1) := by decide +kernel
theorem dX2_differenceAt_25 : decode cX2_differenceAt 25 = .ok (.invokestatic 66, 3) := by decide +kernel
theorem dX2_differenceAt_28 : decode cX2_differenceAt 28 = .ok (.goto 4, 3) := by decide +kernel
theorem dX2_differenceAt_31 : decode cX2_differenceAt 31 = .ok (.iconst 0, 1) := by decide +kernel
theorem dX2_differenceAt_32 : decode cX2_differenceAt 32 = .ok (.ireturn, 1) := by decide +kernel
theorem dX2_laidCells_0 : decode cX2_laidCells 0 = .ok (.iconst 0, 1) := by decide +kernel
theorem dX2_laidCells_1 : decode cX2_laidCells 1 = .ok (.istore_n 1, 1) := by decide +kernel
theorem dX2_laidCells_2 : decode cX2_laidCells 2 = .ok (.aload_n 0, 1) := by decide +kernel
theorem dX2_laidCells_3 : decode cX2_laidCells 3 = .ok (.getfield 25, 3) := by decide +kernel
theorem dX2_laidCells_6 : decode cX2_laidCells 6 = .ok (.astore_n 2, 1) := by decide +kernel
theorem dX2_laidCells_7 : decode cX2_laidCells 7 = .ok (.aload_n 2, 1) := by decide +kernel
theorem dX2_laidCells_8 : decode cX2_laidCells 8 = .ok (.arraylength, 1) := by decide +kernel
theorem dX2_laidCells_9 : decode cX2_laidCells 9 = .ok (.istore_n 3, 1) := by decide +kernel
theorem dX2_laidCells_10 : decode cX2_laidCells 10 = .ok (.iconst 0, 1) := by decide +kernel
theorem dX2_laidCells_11 : decode cX2_laidCells 11 = .ok (.istore 4, 2) := by decide +kernel
theorem dX2_laidCells_13 : decode cX2_laidCells 13 = .ok (.iload 4, 2) := by decide +kernel
theorem dX2_laidCells_15 : decode cX2_laidCells 15 = .ok (.iload_n 3, 1) := by decide +kernel
theorem dX2_laidCells_16 : decode cX2_laidCells 16 = .ok (.if_icmp .ge 24, 3) := by decide +kernel
theorem dX2_laidCells_19 : decode cX2_laidCells 19 = .ok (.aload_n 2, 1) := by decide +kernel
theorem dX2_laidCells_20 : decode cX2_laidCells 20 = .ok (.iload 4, 2) := by decide +kernel
theorem dX2_laidCells_22 : decode cX2_laidCells 22 = .ok (.iaload, 1) := by decide +kernel
theorem dX2_laidCells_23 : decode cX2_laidCells 23 = .ok (.istore 5, 2) := by decide +kernel
theorem dX2_laidCells_25 : decode cX2_laidCells 25 = .ok (.iload 5, 2) := by decide +kernel
theorem dX2_laidCells_27 : decode cX2_laidCells 27 = .ok (.iconst (-1), 1) := by decide +kernel
theorem dX2_laidCells_28 : decode cX2_laidCells 28 = .ok (.if_icmp .eq 6, 3) := by decide +kernel
theorem dX2_laidCells_31 : decode cX2_laidCells 31 = .ok (.iinc 1 1, 3) := by decide +kernel
theorem dX2_laidCells_34 : decode cX2_laidCells 34 = .ok (.iinc 4 1, 3) := by decide +kernel
theorem dX2_laidCells_37 : decode cX2_laidCells 37 = .ok (.goto (-24), 3) := by decide +kernel
theorem dX2_laidCells_40 : decode cX2_laidCells 40 = .ok (.iload_n 1, 1) := by decide +kernel
theorem dX2_laidCells_41 : decode cX2_laidCells 41 = .ok (.ireturn, 1) := by decide +kernel
theorem dX2_sumOfDifferences_0 : decode cX2_sumOfDifferences 0 = .ok (.iconst 0, 1) := by decide +kernel
theorem dX2_sumOfDifferences_1 : decode cX2_sumOfDifferences 1 = .ok (.istore_n 1, 1) := by decide +kernel
theorem dX2_sumOfDifferences_2 : decode cX2_sumOfDifferences 2 = .ok (.iconst 0, 1) := by decide +kernel
theorem dX2_sumOfDifferences_3 : decode cX2_sumOfDifferences 3 = .ok (.istore_n 2, 1) := by decide +kernel
theorem dX2_sumOfDifferences_4 : decode cX2_sumOfDifferences 4 = .ok (.iload_n 2, 1) := by decide +kernel
theorem dX2_sumOfDifferences_5 : decode cX2_sumOfDifferences 5 = .ok (.aload_n 0, 1) := by decide +kernel
theorem dX2_sumOfDifferences_6 : decode cX2_sumOfDifferences 6 = .ok (.getfield 12, 3) := by decide +kernel
theorem dX2_sumOfDifferences_9 : decode cX2_sumOfDifferences 9 = .ok (.getfield 72, 3) := by decide +kernel
theorem dX2_sumOfDifferences_12 : decode cX2_sumOfDifferences 12 = .ok (.if_icmp .ge 37, 3) := by decide +kernel
theorem dX2_sumOfDifferences_15 : decode cX2_sumOfDifferences 15 = .ok (.iconst 0, 1) := by decide +kernel
theorem dX2_sumOfDifferences_16 : decode cX2_sumOfDifferences 16 = .ok (.istore_n 3, 1) := by decide +kernel
theorem dX2_sumOfDifferences_17 : decode cX2_sumOfDifferences 17 = .ok (.iload_n 3, 1) := by decide +kernel
theorem dX2_sumOfDifferences_18 : decode cX2_sumOfDifferences 18 = .ok (.aload_n 0, 1) := by decide +kernel
theorem dX2_sumOfDifferences_19 : decode cX2_sumOfDifferences 19 = .ok (.getfield 12, 3) := by decide +kernel
theorem dX2_sumOfDifferences_22 : decode cX2_sumOfDifferences 22 = .ok (.getfield 75, 3) := by decide +kernel
theorem dX2_sumOfDifferences_25 : decode cX2_sumOfDifferences 25 = .ok (.if_icmp .ge 18, 3) := by decide +kernel
theorem dX2_sumOfDifferences_28 : decode cX2_sumOfDifferences 28 = .ok (.iload_n 1, 1) := by decide +kernel
theorem dX2_sumOfDifferences_29 : decode cX2_sumOfDifferences 29 = .ok (.aload_n 0, 1) := by decide +kernel
theorem dX2_sumOfDifferences_30 : decode cX2_sumOfDifferences 30 = .ok (.iload_n 3, 1) := by decide +kernel
theorem dX2_sumOfDifferences_31 : decode cX2_sumOfDifferences 31 = .ok (.iload_n 2, 1) := by decide +kernel
theorem dX2_sumOfDifferences_32 : decode cX2_sumOfDifferences 32 = .ok (.invokevirtual 78, 3) := by decide +kernel
theorem dX2_sumOfDifferences_35 : decode cX2_sumOfDifferences 35 = .ok (.iadd, 1) := by decide +kernel
theorem dX2_sumOfDifferences_36 : decode cX2_sumOfDifferences 36 = .ok (.istore_n 1, 1) := by decide +kernel
theorem dX2_sumOfDifferences_37 : decode cX2_sumOfDifferences 37 = .ok (.iinc 3 1, 3) := by decide +kernel
theorem dX2_sumOfDifferences_40 : decode cX2_sumOfDifferences 40 = .ok (.goto (-23), 3) := by decide +kernel
theorem dX2_sumOfDifferences_43 : decode cX2_sumOfDifferences 43 = .ok (.iinc 2 1, 3) := by decide +kernel
theorem dX2_sumOfDifferences_46 : decode cX2_sumOfDifferences 46 = .ok (.goto (-42), 3) := by decide +kernel
theorem dX2_sumOfDifferences_49 : decode cX2_sumOfDifferences 49 = .ok (.iload_n 1, 1) := by decide +kernel
theorem dX2_sumOfDifferences_50 : decode cX2_sumOfDifferences 50 = .ok (.ireturn, 1) := by decide +kernel
theorem dX2_greatestDifference_0 : decode cX2_greatestDifference 0 = .ok (.iconst 0, 1) := by decide +kernel
theorem dX2_greatestDifference_1 : decode cX2_greatestDifference 1 = .ok (.istore_n 1, 1) := by decide +kernel
theorem dX2_greatestDifference_2 : decode cX2_greatestDifference 2 = .ok (.iconst 0, 1) := by decide +kernel
theorem dX2_greatestDifference_3 : decode cX2_greatestDifference 3 = .ok (.istore_n 2, 1) := by decide +kernel
theorem dX2_greatestDifference_4 : decode cX2_greatestDifference 4 = .ok (.iload_n 2, 1) := by decide +kernel
theorem dX2_greatestDifference_5 : decode cX2_greatestDifference 5 = .ok (.aload_n 0, 1) := by decide +kernel
theorem dX2_greatestDifference_6 : decode cX2_greatestDifference 6 = .ok (.getfield 12, 3) := by decide +kernel
theorem dX2_greatestDifference_9 : decode cX2_greatestDifference 9 = .ok (.getfield 72, 3) := by decide +kernel
theorem dX2_greatestDifference_12 : decode cX2_greatestDifference 12 = .ok (.if_icmp .ge 39, 3) := by decide +kernel
theorem dX2_greatestDifference_15 : decode cX2_greatestDifference 15 = .ok (.iconst 0, 1) := by decide +kernel
theorem dX2_greatestDifference_16 : decode cX2_greatestDifference 16 = .ok (.istore_n 3, 1) := by decide +kernel
theorem dX2_greatestDifference_17 : decode cX2_greatestDifference 17 = .ok (.iload_n 3, 1) := by decide +kernel
theorem dX2_greatestDifference_18 : decode cX2_greatestDifference 18 = .ok (.aload_n 0, 1) := by decide +kernel
theorem dX2_greatestDifference_19 : decode cX2_greatestDifference 19 = .ok (.getfield 12, 3) := by decide +kernel
theorem dX2_greatestDifference_22 : decode cX2_greatestDifference 22 = .ok (.getfield 75, 3) := by decide +kernel
theorem dX2_greatestDifference_25 : decode cX2_greatestDifference 25 = .ok (.if_icmp .ge 20, 3) := by decide +kernel
theorem dX2_greatestDifference_28 : decode cX2_greatestDifference 28 = .ok (.iload_n 1, 1) := by decide +kernel
theorem dX2_greatestDifference_29 : decode cX2_greatestDifference 29 = .ok (.aload_n 0, 1) := by decide +kernel
theorem dX2_greatestDifference_30 : decode cX2_greatestDifference 30 = .ok (.iload_n 3, 1) := by decide +kernel
theorem dX2_greatestDifference_31 : decode cX2_greatestDifference 31 = .ok (.iload_n 2, 1) := by decide +kernel
theorem dX2_greatestDifference_32 : decode cX2_greatestDifference 32 = .ok (.invokevirtual 78, 3) := by decide +kernel
theorem dX2_greatestDifference_35 : decode cX2_greatestDifference 35 = .ok (.invokestatic 81, 3) := by decide +kernel
theorem dX2_greatestDifference_38 : decode cX2_greatestDifference 38 = .ok (.istore_n 1, 1) := by decide +kernel
theorem dX2_greatestDifference_39 : decode cX2_greatestDifference 39 = .ok (.iinc 3 1, 3) := by decide +kernel
theorem dX2_greatestDifference_42 : decode cX2_greatestDifference 42 = .ok (.goto (-25), 3) := by decide +kernel
theorem dX2_greatestDifference_45 : decode cX2_greatestDifference 45 = .ok (.iinc 2 1, 3) := by decide +kernel
theorem dX2_greatestDifference_48 : decode cX2_greatestDifference 48 = .ok (.goto (-44), 3) := by decide +kernel
theorem dX2_greatestDifference_51 : decode cX2_greatestDifference 51 = .ok (.iload_n 1, 1) := by decide +kernel
theorem dX2_greatestDifference_52 : decode cX2_greatestDifference 52 = .ok (.ireturn, 1) := by decide +kernel
theorem dX2_shadeForOrNone_0 : decode cX2_shadeForOrNone 0 = .ok (.aload_n 0, 1) := by decide +kernel
theorem dX2_shadeForOrNone_1 : decode cX2_shadeForOrNone 1 = .ok (.getfield 21, 3) := by decide +kernel
theorem dX2_shadeForOrNone_4 : decode cX2_shadeForOrNone 4 = .ok (.aload_n 0, 1) := by decide +kernel
theorem dX2_shadeForOrNone_5 : decode cX2_shadeForOrNone 5 = .ok (.getfield 12, 3) := by decide +kernel
theorem dX2_shadeForOrNone_8 : decode cX2_shadeForOrNone 8 = .ok (.iload_n 1, 1) := by decide +kernel
theorem dX2_shadeForOrNone_9 : decode cX2_shadeForOrNone 9 = .ok (.iload_n 2, 1) := by decide +kernel
theorem dX2_shadeForOrNone_10 : decode cX2_shadeForOrNone 10 = .ok (.invokevirtual 63, 3) := by decide +kernel
theorem dX2_shadeForOrNone_13 : decode cX2_shadeForOrNone 13 = .ok (.invokevirtual 84, 3) := by decide +kernel
theorem dX2_shadeForOrNone_16 : decode cX2_shadeForOrNone 16 = .ok (.ireturn, 1) := by decide +kernel
theorem dX2_layCellIfPossible_0 : decode cX2_layCellIfPossible 0 = .ok (.aload_n 0, 1) := by decide +kernel
theorem dX2_layCellIfPossible_1 : decode cX2_layCellIfPossible 1 = .ok (.iload_n 1, 1) := by decide +kernel
theorem dX2_layCellIfPossible_2 : decode cX2_layCellIfPossible 2 = .ok (.iload_n 2, 1) := by decide +kernel
theorem dX2_layCellIfPossible_3 : decode cX2_layCellIfPossible 3 = .ok (.invokevirtual 60, 3) := by decide +kernel
theorem dX2_layCellIfPossible_6 : decode cX2_layCellIfPossible 6 = .ok (.ifCond .eq 4, 3) := by decide +kernel
theorem dX2_layCellIfPossible_9 : decode cX2_layCellIfPossible 9 = .ok (.return_, 1) := by decide +kernel
theorem dX2_layCellIfPossible_10 : decode cX2_layCellIfPossible 10 = .ok (.aload_n 0, 1) := by decide +kernel
theorem dX2_layCellIfPossible_11 : decode cX2_layCellIfPossible 11 = .ok (.getfield 21, 3) := by decide +kernel
theorem dX2_layCellIfPossible_14 : decode cX2_layCellIfPossible 14 = .ok (.aload_n 0, 1) := by decide +kernel
theorem dX2_layCellIfPossible_15 : decode cX2_layCellIfPossible 15 = .ok (.getfield 12, 3) := by decide +kernel
theorem dX2_layCellIfPossible_18 : decode cX2_layCellIfPossible 18 = .ok (.iload_n 1, 1) := by decide +kernel
theorem dX2_layCellIfPossible_19 : decode cX2_layCellIfPossible 19 = .ok (.iload_n 2, 1) := by decide +kernel
theorem dX2_layCellIfPossible_20 : decode cX2_layCellIfPossible 20 = .ok (.invokevirtual 63, 3) := by decide +kernel
theorem dX2_layCellIfPossible_23 : decode cX2_layCellIfPossible 23 = .ok (.invokevirtual 84, 3) := by decide +kernel
theorem dX2_layCellIfPossible_26 : decode cX2_layCellIfPossible 26 = .ok (.istore_n 3, 1) := by decide +kernel
theorem dX2_layCellIfPossible_27 : decode cX2_layCellIfPossible 27 = .ok (.iload_n 3, 1) := by decide +kernel
theorem dX2_layCellIfPossible_28 : decode cX2_layCellIfPossible 28 = .ok (.iconst (-1), 1) := by decide +kernel
theorem dX2_layCellIfPossible_29 : decode cX2_layCellIfPossible 29 = .ok (.if_icmp .eq 26, 3) := by decide +kernel
theorem dX2_layCellIfPossible_32 : decode cX2_layCellIfPossible 32 = .ok (.aload_n 0, 1) := by decide +kernel
theorem dX2_layCellIfPossible_33 : decode cX2_layCellIfPossible 33 = .ok (.getfield 21, 3) := by decide +kernel
theorem dX2_layCellIfPossible_36 : decode cX2_layCellIfPossible 36 = .ok (.iload_n 3, 1) := by decide +kernel
theorem dX2_layCellIfPossible_37 : decode cX2_layCellIfPossible 37 = .ok (.invokevirtual 87, 3) := by decide +kernel
theorem dX2_layCellIfPossible_40 : decode cX2_layCellIfPossible 40 = .ok (.aload_n 0, 1) := by decide +kernel
theorem dX2_layCellIfPossible_41 : decode cX2_layCellIfPossible 41 = .ok (.getfield 21, 3) := by decide +kernel
theorem dX2_layCellIfPossible_44 : decode cX2_layCellIfPossible 44 = .ok (.iload_n 3, 1) := by decide +kernel
theorem dX2_layCellIfPossible_45 : decode cX2_layCellIfPossible 45 = .ok (.invokevirtual 91, 3) := by decide +kernel
theorem dX2_layCellIfPossible_48 : decode cX2_layCellIfPossible 48 = .ok (.aload_n 0, 1) := by decide +kernel
theorem dX2_layCellIfPossible_49 : decode cX2_layCellIfPossible 49 = .ok (.iload_n 1, 1) := by decide +kernel
theorem dX2_layCellIfPossible_50 : decode cX2_layCellIfPossible 50 = .ok (.iload_n 2, 1) := by decide +kernel
theorem dX2_layCellIfPossible_51 : decode cX2_layCellIfPossible 51 = .ok (.iload_n 3, 1) := by decide +kernel
theorem dX2_layCellIfPossible_52 : decode cX2_layCellIfPossible 52 = .ok (.invokevirtual 94, 3) := by decide +kernel
theorem dX2_layCellIfPossible_55 : decode cX2_layCellIfPossible 55 = .ok (.return_, 1) := by decide +kernel
theorem dX2_layEmptyCells_0 : decode cX2_layEmptyCells 0 = .ok (.aload_n 0, 1) := by decide +kernel
theorem dX2_layEmptyCells_1 : decode cX2_layEmptyCells 1 = .ok (.invokevirtual 98, 3) := by decide +kernel
theorem dX2_layEmptyCells_4 : decode cX2_layEmptyCells 4 = .ok (.istore_n 1, 1) := by decide +kernel
theorem dX2_layEmptyCells_5 : decode cX2_layEmptyCells 5 = .ok (.iconst 0, 1) := by decide +kernel
theorem dX2_layEmptyCells_6 : decode cX2_layEmptyCells 6 = .ok (.istore_n 2, 1) := by decide +kernel
theorem dX2_layEmptyCells_7 : decode cX2_layEmptyCells 7 = .ok (.iload_n 2, 1) := by decide +kernel
theorem dX2_layEmptyCells_8 : decode cX2_layEmptyCells 8 = .ok (.aload_n 0, 1) := by decide +kernel
theorem dX2_layEmptyCells_9 : decode cX2_layEmptyCells 9 = .ok (.getfield 12, 3) := by decide +kernel
theorem dX2_layEmptyCells_12 : decode cX2_layEmptyCells 12 = .ok (.invokevirtual 102, 3) := by decide +kernel
theorem dX2_layEmptyCells_15 : decode cX2_layEmptyCells 15 = .ok (.if_icmp .ge 29, 3) := by decide +kernel
theorem dX2_layEmptyCells_18 : decode cX2_layEmptyCells 18 = .ok (.aload_n 0, 1) := by decide +kernel
theorem dX2_layEmptyCells_19 : decode cX2_layEmptyCells 19 = .ok (.aload_n 0, 1) := by decide +kernel
theorem dX2_layEmptyCells_20 : decode cX2_layEmptyCells 20 = .ok (.getfield 12, 3) := by decide +kernel
theorem dX2_layEmptyCells_23 : decode cX2_layEmptyCells 23 = .ok (.iload_n 2, 1) := by decide +kernel
theorem dX2_layEmptyCells_24 : decode cX2_layEmptyCells 24 = .ok (.invokevirtual 105, 3) := by decide +kernel
theorem dX2_layEmptyCells_27 : decode cX2_layEmptyCells 27 = .ok (.aload_n 0, 1) := by decide +kernel
theorem dX2_layEmptyCells_28 : decode cX2_layEmptyCells 28 = .ok (.getfield 12, 3) := by decide +kernel
theorem dX2_layEmptyCells_31 : decode cX2_layEmptyCells 31 = .ok (.iload_n 2, 1) := by decide +kernel
theorem dX2_layEmptyCells_32 : decode cX2_layEmptyCells 32 = .ok (.invokevirtual 108, 3) := by decide +kernel
theorem dX2_layEmptyCells_35 : decode cX2_layEmptyCells 35 = .ok (.invokevirtual 111, 3) := by decide +kernel
theorem dX2_layEmptyCells_38 : decode cX2_layEmptyCells 38 = .ok (.iinc 2 1, 3) := by decide +kernel
theorem dX2_layEmptyCells_41 : decode cX2_layEmptyCells 41 = .ok (.goto (-34), 3) := by decide +kernel
theorem dX2_layEmptyCells_44 : decode cX2_layEmptyCells 44 = .ok (.iconst 1, 1) := by decide +kernel
theorem dX2_layEmptyCells_45 : decode cX2_layEmptyCells 45 = .ok (.istore_n 2, 1) := by decide +kernel
theorem dX2_layEmptyCells_46 : decode cX2_layEmptyCells 46 = .ok (.iload_n 2, 1) := by decide +kernel
theorem dX2_layEmptyCells_47 : decode cX2_layEmptyCells 47 = .ok (.aload_n 0, 1) := by decide +kernel
theorem dX2_layEmptyCells_48 : decode cX2_layEmptyCells 48 = .ok (.getfield 12, 3) := by decide +kernel
theorem dX2_layEmptyCells_51 : decode cX2_layEmptyCells 51 = .ok (.getfield 72, 3) := by decide +kernel
theorem dX2_layEmptyCells_54 : decode cX2_layEmptyCells 54 = .ok (.iconst 1, 1) := by decide +kernel
theorem dX2_layEmptyCells_55 : decode cX2_layEmptyCells 55 = .ok (.isub, 1) := by decide +kernel
theorem dX2_layEmptyCells_56 : decode cX2_layEmptyCells 56 = .ok (.if_icmp .ge 36, 3) := by decide +kernel
theorem dX2_layEmptyCells_59 : decode cX2_layEmptyCells 59 = .ok (.iconst 1, 1) := by decide +kernel
theorem dX2_layEmptyCells_60 : decode cX2_layEmptyCells 60 = .ok (.istore_n 3, 1) := by decide +kernel
theorem dX2_layEmptyCells_61 : decode cX2_layEmptyCells 61 = .ok (.iload_n 3, 1) := by decide +kernel
theorem dX2_layEmptyCells_62 : decode cX2_layEmptyCells 62 = .ok (.aload_n 0, 1) := by decide +kernel
theorem dX2_layEmptyCells_63 : decode cX2_layEmptyCells 63 = .ok (.getfield 12, 3) := by decide +kernel
theorem dX2_layEmptyCells_66 : decode cX2_layEmptyCells 66 = .ok (.getfield 75, 3) := by decide +kernel
theorem dX2_layEmptyCells_69 : decode cX2_layEmptyCells 69 = .ok (.iconst 1, 1) := by decide +kernel
theorem dX2_layEmptyCells_70 : decode cX2_layEmptyCells 70 = .ok (.isub, 1) := by decide +kernel
theorem dX2_layEmptyCells_71 : decode cX2_layEmptyCells 71 = .ok (.if_icmp .ge 15, 3) := by decide +kernel
theorem dX2_layEmptyCells_74 : decode cX2_layEmptyCells 74 = .ok (.aload_n 0, 1) := by decide +kernel
theorem dX2_layEmptyCells_75 : decode cX2_layEmptyCells 75 = .ok (.iload_n 3, 1) := by decide +kernel
theorem dX2_layEmptyCells_76 : decode cX2_layEmptyCells 76 = .ok (.iload_n 2, 1) := by decide +kernel
theorem dX2_layEmptyCells_77 : decode cX2_layEmptyCells 77 = .ok (.invokevirtual 111, 3) := by decide +kernel
theorem dX2_layEmptyCells_80 : decode cX2_layEmptyCells 80 = .ok (.iinc 3 1, 3) := by decide +kernel
theorem dX2_layEmptyCells_83 : decode cX2_layEmptyCells 83 = .ok (.goto (-22), 3) := by decide +kernel
theorem dX2_layEmptyCells_86 : decode cX2_layEmptyCells 86 = .ok (.iinc 2 1, 3) := by decide +kernel
theorem dX2_layEmptyCells_89 : decode cX2_layEmptyCells 89 = .ok (.goto (-43), 3) := by decide +kernel
theorem dX2_layEmptyCells_92 : decode cX2_layEmptyCells 92 = .ok (.aload_n 0, 1) := by decide +kernel
theorem dX2_layEmptyCells_93 : decode cX2_layEmptyCells 93 = .ok (.invokevirtual 98, 3) := by decide +kernel
theorem dX2_layEmptyCells_96 : decode cX2_layEmptyCells 96 = .ok (.iload_n 1, 1) := by decide +kernel
theorem dX2_layEmptyCells_97 : decode cX2_layEmptyCells 97 = .ok (.isub, 1) := by decide +kernel
theorem dX2_layEmptyCells_98 : decode cX2_layEmptyCells 98 = .ok (.ireturn, 1) := by decide +kernel
theorem dX2_liftToHand_0 : decode cX2_liftToHand 0 = .ok (.aload_n 0, 1) := by decide +kernel
theorem dX2_liftToHand_1 : decode cX2_liftToHand 1 = .ok (.iload_n 1, 1) := by decide +kernel
theorem dX2_liftToHand_2 : decode cX2_liftToHand 2 = .ok (.iload_n 2, 1) := by decide +kernel
theorem dX2_liftToHand_3 : decode cX2_liftToHand 3 = .ok (.invokevirtual 56, 3) := by decide +kernel
theorem dX2_liftToHand_6 : decode cX2_liftToHand 6 = .ok (.istore_n 3, 1) := by decide +kernel
theorem dX2_liftToHand_7 : decode cX2_liftToHand 7 = .ok (.aload_n 0, 1) := by decide +kernel
theorem dX2_liftToHand_8 : decode cX2_liftToHand 8 = .ok (.iload_n 1, 1) := by decide +kernel
theorem dX2_liftToHand_9 : decode cX2_liftToHand 9 = .ok (.iload_n 2, 1) := by decide +kernel
theorem dX2_liftToHand_10 : decode cX2_liftToHand 10 = .ok (.iconst (-1), 1) := by decide +kernel
theorem dX2_liftToHand_11 : decode cX2_liftToHand 11 = .ok (.invokevirtual 94, 3) := by decide +kernel
theorem dX2_liftToHand_14 : decode cX2_liftToHand 14 = .ok (.aload_n 0, 1) := by decide +kernel
theorem dX2_liftToHand_15 : decode cX2_liftToHand 15 = .ok (.dup, 1) := by decide +kernel
theorem dX2_liftToHand_16 : decode cX2_liftToHand 16 = .ok (.getfield 48, 3) := by decide +kernel
theorem dX2_liftToHand_19 : decode cX2_liftToHand 19 = .ok (.iconst 1, 1) := by decide +kernel
theorem dX2_liftToHand_20 : decode cX2_liftToHand 20 = .ok (.iadd, 1) := by decide +kernel
theorem dX2_liftToHand_21 : decode cX2_liftToHand 21 = .ok (.putfield 48, 3) := by decide +kernel
theorem dX2_liftToHand_24 : decode cX2_liftToHand 24 = .ok (.aload_n 0, 1) := by decide +kernel
theorem dX2_liftToHand_25 : decode cX2_liftToHand 25 = .ok (.getfield 48, 3) := by decide +kernel
theorem dX2_liftToHand_28 : decode cX2_liftToHand 28 = .ok (.iconst 3, 1) := by decide +kernel
theorem dX2_liftToHand_29 : decode cX2_liftToHand 29 = .ok (.irem, 1) := by decide +kernel
theorem dX2_liftToHand_30 : decode cX2_liftToHand 30 = .ok (.ifCond .ne 12, 3) := by decide +kernel
theorem dX2_liftToHand_33 : decode cX2_liftToHand 33 = .ok (.aload_n 0, 1) := by decide +kernel
theorem dX2_liftToHand_34 : decode cX2_liftToHand 34 = .ok (.getfield 21, 3) := by decide +kernel
theorem dX2_liftToHand_37 : decode cX2_liftToHand 37 = .ok (.invokevirtual 115, 3) := by decide +kernel
theorem dX2_liftToHand_40 : decode cX2_liftToHand 40 = .ok (.iconst 0, 1) := by decide +kernel
theorem dX2_liftToHand_41 : decode cX2_liftToHand 41 = .ok (.ireturn, 1) := by decide +kernel
theorem dX2_liftToHand_42 : decode cX2_liftToHand 42 = .ok (.aload_n 0, 1) := by decide +kernel
theorem dX2_liftToHand_43 : decode cX2_liftToHand 43 = .ok (.getfield 21, 3) := by decide +kernel
theorem dX2_liftToHand_46 : decode cX2_liftToHand 46 = .ok (.iload_n 3, 1) := by decide +kernel
theorem dX2_liftToHand_47 : decode cX2_liftToHand 47 = .ok (.invokevirtual 118, 3) := by decide +kernel
theorem dX2_liftToHand_50 : decode cX2_liftToHand 50 = .ok (.iconst 1, 1) := by decide +kernel
theorem dX2_liftToHand_51 : decode cX2_liftToHand 51 = .ok (.ireturn, 1) := by decide +kernel
theorem dX2_lackOf_0 : decode cX2_lackOf 0 = .ok (.iconst 0, 1) := by decide +kernel
theorem dX2_lackOf_1 : decode cX2_lackOf 1 = .ok (.istore_n 2, 1) := by decide +kernel
theorem dX2_lackOf_2 : decode cX2_lackOf 2 = .ok (.iconst 0, 1) := by decide +kernel
theorem dX2_lackOf_3 : decode cX2_lackOf 3 = .ok (.istore_n 3, 1) := by decide +kernel
theorem dX2_lackOf_4 : decode cX2_lackOf 4 = .ok (.iload_n 3, 1) := by decide +kernel
theorem dX2_lackOf_5 : decode cX2_lackOf 5 = .ok (.aload_n 0, 1) := by decide +kernel
theorem dX2_lackOf_6 : decode cX2_lackOf 6 = .ok (.getfield 12, 3) := by decide +kernel
theorem dX2_lackOf_9 : decode cX2_lackOf 9 = .ok (.getfield 72, 3) := by decide +kernel
theorem dX2_lackOf_12 : decode cX2_lackOf 12 = .ok (.if_icmp .ge 57, 3) := by decide +kernel
theorem dX2_lackOf_15 : decode cX2_lackOf 15 = .ok (.iconst 0, 1) := by decide +kernel
theorem dX2_lackOf_16 : decode cX2_lackOf 16 = .ok (.istore 4, 2) := by decide +kernel
theorem dX2_lackOf_18 : decode cX2_lackOf 18 = .ok (.iload 4, 2) := by decide +kernel
theorem dX2_lackOf_20 : decode cX2_lackOf 20 = .ok (.aload_n 0, 1) := by decide +kernel
theorem dX2_lackOf_21 : decode cX2_lackOf 21 = .ok (.getfield 12, 3) := by decide +kernel
theorem dX2_lackOf_24 : decode cX2_lackOf 24 = .ok (.getfield 75, 3) := by decide +kernel
theorem dX2_lackOf_27 : decode cX2_lackOf 27 = .ok (.if_icmp .ge 36, 3) := by decide +kernel
theorem dX2_lackOf_30 : decode cX2_lackOf 30 = .ok (.aload_n 0, 1) := by decide +kernel
theorem dX2_lackOf_31 : decode cX2_lackOf 31 = .ok (.iload 4, 2) := by decide +kernel
theorem dX2_lackOf_33 : decode cX2_lackOf 33 = .ok (.iload_n 3, 1) := by decide +kernel
theorem dX2_lackOf_34 : decode cX2_lackOf 34 = .ok (.invokevirtual 60, 3) := by decide +kernel
theorem dX2_lackOf_37 : decode cX2_lackOf 37 = .ok (.ifCond .ne 20, 3) := by decide +kernel
theorem dX2_lackOf_40 : decode cX2_lackOf 40 = .ok (.aload_n 0, 1) := by decide +kernel
theorem dX2_lackOf_41 : decode cX2_lackOf 41 = .ok (.getfield 12, 3) := by decide +kernel
theorem dX2_lackOf_44 : decode cX2_lackOf 44 = .ok (.iload 4, 2) := by decide +kernel
theorem dX2_lackOf_46 : decode cX2_lackOf 46 = .ok (.iload_n 3, 1) := by decide +kernel
theorem dX2_lackOf_47 : decode cX2_lackOf 47 = .ok (.invokevirtual 63, 3) := by decide +kernel
theorem dX2_lackOf_50 : decode cX2_lackOf 50 = .ok (.iload_n 1, 1) := by decide +kernel
theorem dX2_lackOf_51 : decode cX2_lackOf 51 = .ok (.if_icmp .ne 6, 3) := by decide +kernel
theorem dX2_lackOf_54 : decode cX2_lackOf 54 = .ok (.iinc 2 1, 3) := by decide +kernel
theorem dX2_lackOf_57 : decode cX2_lackOf 57 = .ok (.iinc 4 1, 3) := by decide +kernel
theorem dX2_lackOf_60 : decode cX2_lackOf 60 = .ok (.goto (-42), 3) := by decide +kernel
theorem dX2_lackOf_63 : decode cX2_lackOf 63 = .ok (.iinc 3 1, 3) := by decide +kernel
theorem dX2_lackOf_66 : decode cX2_lackOf 66 = .ok (.goto (-62), 3) := by decide +kernel
theorem dX2_lackOf_69 : decode cX2_lackOf 69 = .ok (.iload_n 2, 1) := by decide +kernel
theorem dX2_lackOf_70 : decode cX2_lackOf 70 = .ok (.aload_n 0, 1) := by decide +kernel
theorem dX2_lackOf_71 : decode cX2_lackOf 71 = .ok (.getfield 21, 3) := by decide +kernel
theorem dX2_lackOf_74 : decode cX2_lackOf 74 = .ok (.iload_n 1, 1) := by decide +kernel
theorem dX2_lackOf_75 : decode cX2_lackOf 75 = .ok (.invokevirtual 121, 3) := by decide +kernel
theorem dX2_lackOf_78 : decode cX2_lackOf 78 = .ok (.isub, 1) := by decide +kernel
theorem dX2_lackOf_79 : decode cX2_lackOf 79 = .ok (.iconst 0, 1) := by decide +kernel
theorem dX2_lackOf_80 : decode cX2_lackOf 80 = .ok (.invokestatic 81, 3) := by decide +kernel
theorem dX2_lackOf_83 : decode cX2_lackOf 83 = .ok (.ireturn, 1) := by decide +kernel
theorem dX3_init_0 : decode cX3_init 0 = .ok (.aload_n 0, 1) := by decide +kernel
theorem dX3_init_1 : decode cX3_init 1 = .ok (.invokespecial 3, 3) := by decide +kernel
theorem dX3_init_4 : decode cX3_init 4 = .ok (.aload_n 0, 1) := by decide +kernel
theorem dX3_init_5 : decode cX3_init 5 = .ok (.bipush 10, 2) := by decide +kernel
theorem dX3_init_7 : decode cX3_init 7 = .ok (.anewarray 9, 3) := by decide +kernel
theorem dX3_init_10 : decode cX3_init 10 = .ok (.putfield 11, 3) := by decide +kernel
theorem dX3_init_13 : decode cX3_init 13 = .ok (.aload_n 0, 1) := by decide +kernel
theorem dX3_init_14 : decode cX3_init 14 = .ok (.bipush 100, 2) := by decide +kernel
theorem dX3_init_16 : decode cX3_init 16 = .ok (.newarray .int, 2) := by decide +kernel
theorem dX3_init_18 : decode cX3_init 18 = .ok (.putfield 17, 3) := by decide +kernel
theorem dX3_init_21 : decode cX3_init 21 = .ok (.aload_n 0, 1) := by decide +kernel
theorem dX3_init_22 : decode cX3_init 22 = .ok (.bipush 20, 2) := by decide +kernel
theorem dX3_init_24 : decode cX3_init 24 = .ok (.putfield 21, 3) := by decide +kernel
theorem dX3_init_27 : decode cX3_init 27 = .ok (.aload_n 0, 1) := by decide +kernel
theorem dX3_init_28 : decode cX3_init 28 = .ok (.iconst 2, 1) := by decide +kernel
theorem dX3_init_29 : decode cX3_init 29 = .ok (.putfield 25, 3) := by decide +kernel
theorem dX3_init_32 : decode cX3_init 32 = .ok (.iconst 0, 1) := by decide +kernel
theorem dX3_init_33 : decode cX3_init 33 = .ok (.istore_n 1, 1) := by decide +kernel
theorem dX3_init_34 : decode cX3_init 34 = .ok (.iload_n 1, 1) := by decide +kernel
theorem dX3_init_35 : decode cX3_init 35 = .ok (.aload_n 0, 1) := by decide +kernel
theorem dX3_init_36 : decode cX3_init 36 = .ok (.getfield 11, 3) := by decide +kernel
theorem dX3_init_39 : decode cX3_init 39 = .ok (.arraylength, 1) := by decide +kernel
theorem dX3_init_40 : decode cX3_init 40 = .ok (.if_icmp .ge 22, 3) := by decide +kernel
theorem dX3_init_43 : decode cX3_init 43 = .ok (.aload_n 0, 1) := by decide +kernel
theorem dX3_init_44 : decode cX3_init 44 = .ok (.getfield 11, 3) := by decide +kernel
theorem dX3_init_47 : decode cX3_init 47 = .ok (.iload_n 1, 1) := by decide +kernel
theorem dX3_init_48 : decode cX3_init 48 = .ok (.new 9, 3) := by decide +kernel
theorem dX3_init_51 : decode cX3_init 51 = .ok (.dup, 1) := by decide +kernel
theorem dX3_init_52 : decode cX3_init 52 = .ok (.invokespecial 28, 3) := by decide +kernel
theorem dX3_init_55 : decode cX3_init 55 = .ok (.aastore, 1) := by decide +kernel
theorem dX3_init_56 : decode cX3_init 56 = .ok (.iinc 1 1, 3) := by decide +kernel
theorem dX3_init_59 : decode cX3_init 59 = .ok (.goto (-25), 3) := by decide +kernel
theorem dX3_init_62 : decode cX3_init 62 = .ok (.return_, 1) := by decide +kernel
theorem dX3_copyFrom_0 : decode cX3_copyFrom 0 = .ok (.iconst 0, 1) := by decide +kernel
theorem dX3_copyFrom_1 : decode cX3_copyFrom 1 = .ok (.istore_n 2, 1) := by decide +kernel
theorem dX3_copyFrom_2 : decode cX3_copyFrom 2 = .ok (.iload_n 2, 1) := by decide +kernel
theorem dX3_copyFrom_3 : decode cX3_copyFrom 3 = .ok (.aload_n 0, 1) := by decide +kernel
theorem dX3_copyFrom_4 : decode cX3_copyFrom 4 = .ok (.getfield 11, 3) := by decide +kernel
theorem dX3_copyFrom_7 : decode cX3_copyFrom 7 = .ok (.arraylength, 1) := by decide +kernel
theorem dX3_copyFrom_8 : decode cX3_copyFrom 8 = .ok (.if_icmp .ge 33, 3) := by decide +kernel
theorem dX3_copyFrom_11 : decode cX3_copyFrom 11 = .ok (.iload_n 2, 1) := by decide +kernel
theorem dX3_copyFrom_12 : decode cX3_copyFrom 12 = .ok (.aload_n 1, 1) := by decide +kernel
theorem dX3_copyFrom_13 : decode cX3_copyFrom 13 = .ok (.getfield 11, 3) := by decide +kernel
theorem dX3_copyFrom_16 : decode cX3_copyFrom 16 = .ok (.arraylength, 1) := by decide +kernel
theorem dX3_copyFrom_17 : decode cX3_copyFrom 17 = .ok (.if_icmp .ge 24, 3) := by decide +kernel
theorem dX3_copyFrom_20 : decode cX3_copyFrom 20 = .ok (.aload_n 0, 1) := by decide +kernel
theorem dX3_copyFrom_21 : decode cX3_copyFrom 21 = .ok (.getfield 11, 3) := by decide +kernel
theorem dX3_copyFrom_24 : decode cX3_copyFrom 24 = .ok (.iload_n 2, 1) := by decide +kernel
theorem dX3_copyFrom_25 : decode cX3_copyFrom 25 = .ok (.aaload, 1) := by decide +kernel
theorem dX3_copyFrom_26 : decode cX3_copyFrom 26 = .ok (.aload_n 1, 1) := by decide +kernel
theorem dX3_copyFrom_27 : decode cX3_copyFrom 27 = .ok (.getfield 11, 3) := by decide +kernel
theorem dX3_copyFrom_30 : decode cX3_copyFrom 30 = .ok (.iload_n 2, 1) := by decide +kernel
theorem dX3_copyFrom_31 : decode cX3_copyFrom 31 = .ok (.aaload, 1) := by decide +kernel
theorem dX3_copyFrom_32 : decode cX3_copyFrom 32 = .ok (.invokevirtual 29, 3) := by decide +kernel
theorem dX3_copyFrom_35 : decode cX3_copyFrom 35 = .ok (.iinc 2 1, 3) := by decide +kernel
theorem dX3_copyFrom_38 : decode cX3_copyFrom 38 = .ok (.goto (-36), 3) := by decide +kernel
theorem dX3_copyFrom_41 : decode cX3_copyFrom 41 = .ok (.aload_n 1, 1) := by decide +kernel
theorem dX3_copyFrom_42 : decode cX3_copyFrom 42 = .ok (.getfield 17, 3) := by decide +kernel
theorem dX3_copyFrom_45 : decode cX3_copyFrom 45 = .ok (.iconst 0, 1) := by decide +kernel
theorem dX3_copyFrom_46 : decode cX3_copyFrom 46 = .ok (.aload_n 0, 1) := by decide +kernel
theorem dX3_copyFrom_47 : decode cX3_copyFrom 47 = .ok (.getfield 17, 3) := by decide +kernel
theorem dX3_copyFrom_50 : decode cX3_copyFrom 50 = .ok (.iconst 0, 1) := by decide +kernel
theorem dX3_copyFrom_51 : decode cX3_copyFrom 51 = .ok (.aload_n 0, 1) := by decide +kernel
theorem dX3_copyFrom_52 : decode cX3_copyFrom 52 = .ok (.getfield 17, 3) := by decide +kernel
theorem dX3_copyFrom_55 : decode cX3_copyFrom 55 = .ok (.arraylength, 1) := by decide +kernel
theorem dX3_copyFrom_56 : decode cX3_copyFrom 56 = .ok (.invokestatic 33, 3) := by decide +kernel
theorem dX3_copyFrom_59 : decode cX3_copyFrom 59 = .ok (.aload_n 0, 1) := by decide +kernel
theorem dX3_copyFrom_60 : decode cX3_copyFrom 60 = .ok (.aload_n 1, 1) := by decide +kernel
theorem dX3_copyFrom_61 : decode cX3_copyFrom 61 = .ok (.getfield 39, 3) := by decide +kernel
theorem dX3_copyFrom_64 : decode cX3_copyFrom 64 = .ok (.putfield 39, 3) := by decide +kernel
theorem dX3_copyFrom_67 : decode cX3_copyFrom 67 = .ok (.aload_n 0, 1) := by decide +kernel
theorem dX3_copyFrom_68 : decode cX3_copyFrom 68 = .ok (.aload_n 1, 1) := by decide +kernel
theorem dX3_copyFrom_69 : decode cX3_copyFrom 69 = .ok (.getfield 21, 3) := by decide +kernel
theorem dX3_copyFrom_72 : decode cX3_copyFrom 72 = .ok (.putfield 21, 3) := by decide +kernel
theorem dX3_copyFrom_75 : decode cX3_copyFrom 75 = .ok (.aload_n 0, 1) := by decide +kernel
theorem dX3_copyFrom_76 : decode cX3_copyFrom 76 = .ok (.aload_n 1, 1) := by decide +kernel
theorem dX3_copyFrom_77 : decode cX3_copyFrom 77 = .ok (.getfield 25, 3) := by decide +kernel
theorem dX3_copyFrom_80 : decode cX3_copyFrom 80 = .ok (.putfield 25, 3) := by decide +kernel
theorem dX3_copyFrom_83 : decode cX3_copyFrom 83 = .ok (.aload_n 0, 1) := by decide +kernel
theorem dX3_copyFrom_84 : decode cX3_copyFrom 84 = .ok (.aload_n 1, 1) := by decide +kernel
theorem dX3_copyFrom_85 : decode cX3_copyFrom 85 = .ok (.getfield 42, 3) := by decide +kernel
theorem dX3_copyFrom_88 : decode cX3_copyFrom 88 = .ok (.putfield 42, 3) := by decide +kernel
theorem dX3_copyFrom_91 : decode cX3_copyFrom 91 = .ok (.aload_n 0, 1) := by decide +kernel
theorem dX3_copyFrom_92 : decode cX3_copyFrom 92 = .ok (.aload_n 1, 1) := by decide +kernel
theorem dX3_copyFrom_93 : decode cX3_copyFrom 93 = .ok (.getfield 45, 3) := by decide +kernel
theorem dX3_copyFrom_96 : decode cX3_copyFrom 96 = .ok (.putfield 45, 3) := by decide +kernel
theorem dX3_copyFrom_99 : decode cX3_copyFrom 99 = .ok (.aload_n 0, 1) := by decide +kernel
theorem dX3_copyFrom_100 : decode cX3_copyFrom 100 = .ok (.aload_n 1, 1) := by decide +kernel
theorem dX3_copyFrom_101 : decode cX3_copyFrom 101 = .ok (.getfield 48, 3) := by decide +kernel
theorem dX3_copyFrom_104 : decode cX3_copyFrom 104 = .ok (.putfield 48, 3) := by decide +kernel
theorem dX3_copyFrom_107 : decode cX3_copyFrom 107 = .ok (.aload_n 0, 1) := by decide +kernel
theorem dX3_copyFrom_108 : decode cX3_copyFrom 108 = .ok (.aload_n 1, 1) := by decide +kernel
theorem dX3_copyFrom_109 : decode cX3_copyFrom 109 = .ok (.getfield 51, 3) := by decide +kernel
theorem dX3_copyFrom_112 : decode cX3_copyFrom 112 = .ok (.putfield 51, 3) := by decide +kernel
theorem dX3_copyFrom_115 : decode cX3_copyFrom 115 = .ok (.return_, 1) := by decide +kernel
theorem dX3_addStrip_0 : decode cX3_addStrip 0 = .ok (.aload_n 0, 1) := by decide +kernel
theorem dX3_addStrip_1 : decode cX3_addStrip 1 = .ok (.getfield 39, 3) := by decide +kernel
theorem dX3_addStrip_4 : decode cX3_addStrip 4 = .ok (.istore_n 3, 1) := by decide +kernel
theorem dX3_addStrip_5 : decode cX3_addStrip 5 = .ok (.iload_n 3, 1) := by decide +kernel
theorem dX3_addStrip_6 : decode cX3_addStrip 6 = .ok (.aload_n 0, 1) := by decide +kernel
theorem dX3_addStrip_7 : decode cX3_addStrip 7 = .ok (.getfield 11, 3) := by decide +kernel
theorem dX3_addStrip_10 : decode cX3_addStrip 10 = .ok (.arraylength, 1) := by decide +kernel
theorem dX3_addStrip_11 : decode cX3_addStrip 11 = .ok (.if_icmp .ge 24, 3) := by decide +kernel
theorem dX3_addStrip_14 : decode cX3_addStrip 14 = .ok (.aload_n 0, 1) := by decide +kernel
theorem dX3_addStrip_15 : decode cX3_addStrip 15 = .ok (.getfield 11, 3) := by decide +kernel
theorem dX3_addStrip_18 : decode cX3_addStrip 18 = .ok (.iload_n 3, 1) := by decide +kernel
theorem dX3_addStrip_19 : decode cX3_addStrip 19 = .ok (.aaload, 1) := by decide +kernel
theorem dX3_addStrip_20 : decode cX3_addStrip 20 = .ok (.iload_n 1, 1) := by decide +kernel
theorem dX3_addStrip_21 : decode cX3_addStrip 21 = .ok (.iload_n 2, 1) := by decide +kernel
theorem dX3_addStrip_22 : decode cX3_addStrip 22 = .ok (.invokevirtual 54, 3) := by decide +kernel
theorem dX3_addStrip_25 : decode cX3_addStrip 25 = .ok (.aload_n 0, 1) := by decide +kernel
theorem dX3_addStrip_26 : decode cX3_addStrip 26 = .ok (.dup, 1) := by decide +kernel
theorem dX3_addStrip_27 : decode cX3_addStrip 27 = .ok (.getfield 39, 3) := by decide +kernel
theorem dX3_addStrip_30 : decode cX3_addStrip 30 = .ok (.iconst 1, 1) := by decide +kernel
theorem dX3_addStrip_31 : decode cX3_addStrip 31 = .ok (.iadd, 1) := by decide +kernel
theorem dX3_addStrip_32 : decode cX3_addStrip 32 = .ok (.putfield 39, 3) := by decide +kernel
theorem dX3_addStrip_35 : decode cX3_addStrip 35 = .ok (.iload_n 3, 1) := by decide +kernel
theorem dX3_addStrip_36 : decode cX3_addStrip 36 = .ok (.ireturn, 1) := by decide +kernel
theorem dX3_stripOrNull_0 : decode cX3_stripOrNull 0 = .ok (.iload_n 1, 1) := by decide +kernel
theorem dX3_stripOrNull_1 : decode cX3_stripOrNull 1 = .ok (.ifCond .lt 29, 3) := by decide +kernel
theorem dX3_stripOrNull_4 : decode cX3_stripOrNull 4 = .ok (.iload_n 1, 1) := by decide +kernel
theorem dX3_stripOrNull_5 : decode cX3_stripOrNull 5 = .ok (.aload_n 0, 1) := by decide +kernel
theorem dX3_stripOrNull_6 : decode cX3_stripOrNull 6 = .ok (.getfield 39, 3) := by decide +kernel
theorem dX3_stripOrNull_9 : decode cX3_stripOrNull 9 = .ok (.if_icmp .ge 21, 3) := by decide +kernel
theorem dX3_stripOrNull_12 : decode cX3_stripOrNull 12 = .ok (.iload_n 1, 1) := by decide +kernel
theorem dX3_stripOrNull_13 : decode cX3_stripOrNull 13 = .ok (.aload_n 0, 1) := by decide +kernel
theorem dX3_stripOrNull_14 : decode cX3_stripOrNull 14 = .ok (.getfield 11, 3) := by decide +kernel
theorem dX3_stripOrNull_17 : decode cX3_stripOrNull 17 = .ok (.arraylength, 1) := by decide +kernel
theorem dX3_stripOrNull_18 : decode cX3_stripOrNull 18 = .ok (.if_icmp .ge 12, 3) := by decide +kernel
theorem dX3_stripOrNull_21 : decode cX3_stripOrNull 21 = .ok (.aload_n 0, 1) := by decide +kernel
theorem dX3_stripOrNull_22 : decode cX3_stripOrNull 22 = .ok (.getfield 11, 3) := by decide +kernel
theorem dX3_stripOrNull_25 : decode cX3_stripOrNull 25 = .ok (.iload_n 1, 1) := by decide +kernel
theorem dX3_stripOrNull_26 : decode cX3_stripOrNull 26 = .ok (.aaload, 1) := by decide +kernel
theorem dX3_stripOrNull_27 : decode cX3_stripOrNull 27 = .ok (.goto 4, 3) := by decide +kernel
theorem dX3_stripOrNull_30 : decode cX3_stripOrNull 30 = .ok (.aconst_null, 1) := by decide +kernel
theorem dX3_stripOrNull_31 : decode cX3_stripOrNull 31 = .ok (.areturn, 1) := by decide +kernel
theorem dX3_lengthOfStrips_0 : decode cX3_lengthOfStrips 0 = .ok (.iconst 0, 1) := by decide +kernel
theorem dX3_lengthOfStrips_1 : decode cX3_lengthOfStrips 1 = .ok (.istore_n 1, 1) := by decide +kernel
theorem dX3_lengthOfStrips_2 : decode cX3_lengthOfStrips 2 = .ok (.aload_n 0, 1) := by decide +kernel
theorem dX3_lengthOfStrips_3 : decode cX3_lengthOfStrips 3 = .ok (.getfield 11, 3) := by decide +kernel
theorem dX3_lengthOfStrips_6 : decode cX3_lengthOfStrips 6 = .ok (.astore_n 2, 1) := by decide +kernel
theorem dX3_lengthOfStrips_7 : decode cX3_lengthOfStrips 7 = .ok (.aload_n 2, 1) := by decide +kernel
theorem dX3_lengthOfStrips_8 : decode cX3_lengthOfStrips 8 = .ok (.arraylength, 1) := by decide +kernel
theorem dX3_lengthOfStrips_9 : decode cX3_lengthOfStrips 9 = .ok (.istore_n 3, 1) := by decide +kernel
theorem dX3_lengthOfStrips_10 : decode cX3_lengthOfStrips 10 = .ok (.iconst 0, 1) := by decide +kernel
theorem dX3_lengthOfStrips_11 : decode cX3_lengthOfStrips 11 = .ok (.istore 4, 2) := by decide +kernel
theorem dX3_lengthOfStrips_13 : decode cX3_lengthOfStrips 13 = .ok (.iload 4, 2) := by decide +kernel
theorem dX3_lengthOfStrips_15 : decode cX3_lengthOfStrips 15 = .ok (.iload_n 3, 1) := by decide +kernel
theorem dX3_lengthOfStrips_16 : decode cX3_lengthOfStrips 16 = .ok (.if_icmp .ge 23, 3) := by decide +kernel
theorem dX3_lengthOfStrips_19 : decode cX3_lengthOfStrips 19 = .ok (.aload_n 2, 1) := by decide +kernel
theorem dX3_lengthOfStrips_20 : decode cX3_lengthOfStrips 20 = .ok (.iload 4, 2) := by decide +kernel
theorem dX3_lengthOfStrips_22 : decode cX3_lengthOfStrips 22 = .ok (.aaload, 1) := by decide +kernel
theorem dX3_lengthOfStrips_23 : decode cX3_lengthOfStrips 23 = .ok (.astore 5, 2) := by decide +kernel
theorem dX3_lengthOfStrips_25 : decode cX3_lengthOfStrips 25 = .ok (.iload_n 1, 1) := by decide +kernel
theorem dX3_lengthOfStrips_26 : decode cX3_lengthOfStrips 26 = .ok (.aload 5, 2) := by decide +kernel
theorem dX3_lengthOfStrips_28 : decode cX3_lengthOfStrips 28 = .ok (.getfield 58, 3) := by decide +kernel
theorem dX3_lengthOfStrips_31 : decode cX3_lengthOfStrips 31 = .ok (.iadd, 1) := by decide +kernel
theorem dX3_lengthOfStrips_32 : decode cX3_lengthOfStrips 32 = .ok (.istore_n 1, 1) := by decide +kernel
theorem dX3_lengthOfStrips_33 : decode cX3_lengthOfStrips 33 = .ok (.iinc 4 1, 3) := by decide +kernel
theorem dX3_lengthOfStrips_36 : decode cX3_lengthOfStrips 36 = .ok (.goto (-23), 3) := by decide +kernel
theorem dX3_lengthOfStrips_39 : decode cX3_lengthOfStrips 39 = .ok (.iload_n 1, 1) := by decide +kernel
theorem dX3_lengthOfStrips_40 : decode cX3_lengthOfStrips 40 = .ok (.ireturn, 1) := by decide +kernel
theorem dX3_leftOfStrips_0 : decode cX3_leftOfStrips 0 = .ok (.iconst 0, 1) := by decide +kernel
theorem dX3_leftOfStrips_1 : decode cX3_leftOfStrips 1 = .ok (.istore_n 1, 1) := by decide +kernel
theorem dX3_leftOfStrips_2 : decode cX3_leftOfStrips 2 = .ok (.aload_n 0, 1) := by decide +kernel
theorem dX3_leftOfStrips_3 : decode cX3_leftOfStrips 3 = .ok (.getfield 11, 3) := by decide +kernel
theorem dX3_leftOfStrips_6 : decode cX3_leftOfStrips 6 = .ok (.astore_n 2, 1) := by decide +kernel
theorem dX3_leftOfStrips_7 : decode cX3_leftOfStrips 7 = .ok (.aload_n 2, 1) := by decide +kernel
theorem dX3_leftOfStrips_8 : decode cX3_leftOfStrips 8 = .ok (.arraylength, 1) := by decide +kernel
theorem dX3_leftOfStrips_9 : decode cX3_leftOfStrips 9 = .ok (.istore_n 3, 1) := by decide +kernel
theorem dX3_leftOfStrips_10 : decode cX3_leftOfStrips 10 = .ok (.iconst 0, 1) := by decide +kernel
theorem dX3_leftOfStrips_11 : decode cX3_leftOfStrips 11 = .ok (.istore 4, 2) := by decide +kernel
theorem dX3_leftOfStrips_13 : decode cX3_leftOfStrips 13 = .ok (.iload 4, 2) := by decide +kernel
theorem dX3_leftOfStrips_15 : decode cX3_leftOfStrips 15 = .ok (.iload_n 3, 1) := by decide +kernel
theorem dX3_leftOfStrips_16 : decode cX3_leftOfStrips 16 = .ok (.if_icmp .ge 23, 3) := by decide +kernel
theorem dX3_leftOfStrips_19 : decode cX3_leftOfStrips 19 = .ok (.aload_n 2, 1) := by decide +kernel
theorem dX3_leftOfStrips_20 : decode cX3_leftOfStrips 20 = .ok (.iload 4, 2) := by decide +kernel
theorem dX3_leftOfStrips_22 : decode cX3_leftOfStrips 22 = .ok (.aaload, 1) := by decide +kernel
theorem dX3_leftOfStrips_23 : decode cX3_leftOfStrips 23 = .ok (.astore 5, 2) := by decide +kernel
theorem dX3_leftOfStrips_25 : decode cX3_leftOfStrips 25 = .ok (.iload_n 1, 1) := by decide +kernel
theorem dX3_leftOfStrips_26 : decode cX3_leftOfStrips 26 = .ok (.aload 5, 2) := by decide +kernel
theorem dX3_leftOfStrips_28 : decode cX3_leftOfStrips 28 = .ok (.invokevirtual 61, 3) := by decide +kernel
theorem dX3_leftOfStrips_31 : decode cX3_leftOfStrips 31 = .ok (.iadd, 1) := by decide +kernel
theorem dX3_leftOfStrips_32 : decode cX3_leftOfStrips 32 = .ok (.istore_n 1, 1) := by decide +kernel
theorem dX3_leftOfStrips_33 : decode cX3_leftOfStrips 33 = .ok (.iinc 4 1, 3) := by decide +kernel
theorem dX3_leftOfStrips_36 : decode cX3_leftOfStrips 36 = .ok (.goto (-23), 3) := by decide +kernel
theorem dX3_leftOfStrips_39 : decode cX3_leftOfStrips 39 = .ok (.iload_n 1, 1) := by decide +kernel
theorem dX3_leftOfStrips_40 : decode cX3_leftOfStrips 40 = .ok (.ireturn, 1) := by decide +kernel
theorem dX3_tesseraeAtHand_0 : decode cX3_tesseraeAtHand 0 = .ok (.iconst 0, 1) := by decide +kernel
theorem dX3_tesseraeAtHand_1 : decode cX3_tesseraeAtHand 1 = .ok (.istore_n 1, 1) := by decide +kernel
theorem dX3_tesseraeAtHand_2 : decode cX3_tesseraeAtHand 2 = .ok (.aload_n 0, 1) := by decide +kernel
theorem dX3_tesseraeAtHand_3 : decode cX3_tesseraeAtHand 3 = .ok (.getfield 17, 3) := by decide +kernel
theorem dX3_tesseraeAtHand_6 : decode cX3_tesseraeAtHand 6 = .ok (.astore_n 2, 1) := by decide +kernel
theorem dX3_tesseraeAtHand_7 : decode cX3_tesseraeAtHand 7 = .ok (.aload_n 2, 1) := by decide +kernel
theorem dX3_tesseraeAtHand_8 : decode cX3_tesseraeAtHand 8 = .ok (.arraylength, 1) := by decide +kernel
theorem dX3_tesseraeAtHand_9 : decode cX3_tesseraeAtHand 9 = .ok (.istore_n 3, 1) := by decide +kernel
theorem dX3_tesseraeAtHand_10 : decode cX3_tesseraeAtHand 10 = .ok (.iconst 0, 1) := by decide +kernel
theorem dX3_tesseraeAtHand_11 : decode cX3_tesseraeAtHand 11 = .ok (.istore 4, 2) := by decide +kernel
theorem dX3_tesseraeAtHand_13 : decode cX3_tesseraeAtHand 13 = .ok (.iload 4, 2) := by decide +kernel
theorem dX3_tesseraeAtHand_15 : decode cX3_tesseraeAtHand 15 = .ok (.iload_n 3, 1) := by decide +kernel
theorem dX3_tesseraeAtHand_16 : decode cX3_tesseraeAtHand 16 = .ok (.if_icmp .ge 20, 3) := by decide +kernel
theorem dX3_tesseraeAtHand_19 : decode cX3_tesseraeAtHand 19 = .ok (.aload_n 2, 1) := by decide +kernel
theorem dX3_tesseraeAtHand_20 : decode cX3_tesseraeAtHand 20 = .ok (.iload 4, 2) := by decide +kernel
theorem dX3_tesseraeAtHand_22 : decode cX3_tesseraeAtHand 22 = .ok (.iaload, 1) := by decide +kernel
theorem dX3_tesseraeAtHand_23 : decode cX3_tesseraeAtHand 23 = .ok (.istore 5, 2) := by decide +kernel
theorem dX3_tesseraeAtHand_25 : decode cX3_tesseraeAtHand 25 = .ok (.iload_n 1, 1) := by decide +kernel
theorem dX3_tesseraeAtHand_26 : decode cX3_tesseraeAtHand 26 = .ok (.iload 5, 2) := by decide +kernel
theorem dX3_tesseraeAtHand_28 : decode cX3_tesseraeAtHand 28 = .ok (.iadd, 1) := by decide +kernel
theorem dX3_tesseraeAtHand_29 : decode cX3_tesseraeAtHand 29 = .ok (.istore_n 1, 1) := by decide +kernel
theorem dX3_tesseraeAtHand_30 : decode cX3_tesseraeAtHand 30 = .ok (.iinc 4 1, 3) := by decide +kernel
theorem dX3_tesseraeAtHand_33 : decode cX3_tesseraeAtHand 33 = .ok (.goto (-20), 3) := by decide +kernel
theorem dX3_tesseraeAtHand_36 : decode cX3_tesseraeAtHand 36 = .ok (.iload_n 1, 1) := by decide +kernel
theorem dX3_tesseraeAtHand_37 : decode cX3_tesseraeAtHand 37 = .ok (.ireturn, 1) := by decide +kernel
theorem dX3_atHandOf_0 : decode cX3_atHandOf 0 = .ok (.iload_n 1, 1) := by decide +kernel
theorem dX3_atHandOf_1 : decode cX3_atHandOf 1 = .ok (.invokestatic 65, 3) := by decide +kernel
theorem dX3_atHandOf_4 : decode cX3_atHandOf 4 = .ok (.ifCond .eq 12, 3) := by decide +kernel
theorem dX3_atHandOf_7 : decode cX3_atHandOf 7 = .ok (.aload_n 0, 1) := by decide +kernel
theorem dX3_atHandOf_8 : decode cX3_atHandOf 8 = .ok (.getfield 17, 3) := by decide +kernel
theorem dX3_atHandOf_11 : decode cX3_atHandOf 11 = .ok (.iload_n 1, 1) := by decide +kernel
theorem dX3_atHandOf_12 : decode cX3_atHandOf 12 = .ok (.iaload, 1) := by decide +kernel
theorem dX3_atHandOf_13 : decode cX3_atHandOf 13 = .ok (.goto 4, 3) := by decide +kernel
theorem dX3_atHandOf_16 : decode cX3_atHandOf 16 = .ok (.iconst 0, 1) := by decide +kernel
theorem dX3_atHandOf_17 : decode cX3_atHandOf 17 = .ok (.ireturn, 1) := by decide +kernel
theorem dX3_putAtHand_0 : decode cX3_putAtHand 0 = .ok (.iload_n 1, 1) := by decide +kernel
theorem dX3_putAtHand_1 : decode cX3_putAtHand 1 = .ok (.invokestatic 65, 3) := by decide +kernel
theorem dX3_putAtHand_4 : decode cX3_putAtHand 4 = .ok (.ifCond .eq 13, 3) := by decide +kernel
theorem dX3_putAtHand_7 : decode cX3_putAtHand 7 = .ok (.aload_n 0, 1) := by decide +kernel
theorem dX3_putAtHand_8 : decode cX3_putAtHand 8 = .ok (.getfield 17, 3) := by decide +kernel
theorem dX3_putAtHand_11 : decode cX3_putAtHand 11 = .ok (.iload_n 1, 1) := by decide +kernel
theorem dX3_putAtHand_12 : decode cX3_putAtHand 12 = .ok (.dup2, 1) := by decide +kernel
theorem dX3_putAtHand_13 : decode cX3_putAtHand 13 = .ok (.iaload, 1) := by decide +kernel
theorem dX3_putAtHand_14 : decode cX3_putAtHand 14 = .ok (.iconst 1, 1) := by decide +kernel
theorem dX3_putAtHand_15 : decode cX3_putAtHand 15 = .ok (.iadd, 1) := by decide +kernel
theorem dX3_putAtHand_16 : decode cX3_putAtHand 16 = .ok (.iastore, 1) := by decide +kernel
theorem dX3_putAtHand_17 : decode cX3_putAtHand 17 = .ok (.return_, 1) := by decide +kernel
theorem dX3_takeFromHand_0 : decode cX3_takeFromHand 0 = .ok (.aload_n 0, 1) := by decide +kernel
theorem dX3_takeFromHand_1 : decode cX3_takeFromHand 1 = .ok (.iload_n 1, 1) := by decide +kernel
theorem dX3_takeFromHand_2 : decode cX3_takeFromHand 2 = .ok (.invokevirtual 69, 3) := by decide +kernel
theorem dX3_takeFromHand_5 : decode cX3_takeFromHand 5 = .ok (.ifCond .le 13, 3) := by decide +kernel
theorem dX3_takeFromHand_8 : decode cX3_takeFromHand 8 = .ok (.aload_n 0, 1) := by decide +kernel
theorem dX3_takeFromHand_9 : decode cX3_takeFromHand 9 = .ok (.getfield 17, 3) := by decide +kernel
theorem dX3_takeFromHand_12 : decode cX3_takeFromHand 12 = .ok (.iload_n 1, 1) := by decide +kernel
theorem dX3_takeFromHand_13 : decode cX3_takeFromHand 13 = .ok (.dup2, 1) := by decide +kernel
theorem dX3_takeFromHand_14 : decode cX3_takeFromHand 14 = .ok (.iaload, 1) := by decide +kernel
theorem dX3_takeFromHand_15 : decode cX3_takeFromHand 15 = .ok (.iconst 1, 1) := by decide +kernel
theorem dX3_takeFromHand_16 : decode cX3_takeFromHand 16 = .ok (.isub, 1) := by decide +kernel
theorem dX3_takeFromHand_17 : decode cX3_takeFromHand 17 = .ok (.iastore, 1) := by decide +kernel
theorem dX3_takeFromHand_18 : decode cX3_takeFromHand 18 = .ok (.return_, 1) := by decide +kernel
theorem dX3_addBroken_0 : decode cX3_addBroken 0 = .ok (.aload_n 0, 1) := by decide +kernel
theorem dX3_addBroken_1 : decode cX3_addBroken 1 = .ok (.dup, 1) := by decide +kernel
theorem dX3_addBroken_2 : decode cX3_addBroken 2 = .ok (.getfield 42, 3) := by decide +kernel
theorem dX3_addBroken_5 : decode cX3_addBroken 5 = .ok (.iconst 1, 1) := by decide +kernel
theorem dX3_addBroken_6 : decode cX3_addBroken 6 = .ok (.iadd, 1) := by decide +kernel
theorem dX3_addBroken_7 : decode cX3_addBroken 7 = .ok (.putfield 42, 3) := by decide +kernel
theorem dX3_addBroken_10 : decode cX3_addBroken 10 = .ok (.aload_n 0, 1) := by decide +kernel
theorem dX3_addBroken_11 : decode cX3_addBroken 11 = .ok (.dup, 1) := by decide +kernel
theorem dX3_addBroken_12 : decode cX3_addBroken 12 = .ok (.getfield 45, 3) := by decide +kernel
theorem dX3_addBroken_15 : decode cX3_addBroken 15 = .ok (.aload_n 0, 1) := by decide +kernel
theorem dX3_addBroken_16 : decode cX3_addBroken 16 = .ok (.getfield 21, 3) := by decide +kernel
theorem dX3_addBroken_19 : decode cX3_addBroken 19 = .ok (.iadd, 1) := by decide +kernel
theorem dX3_addBroken_20 : decode cX3_addBroken 20 = .ok (.putfield 45, 3) := by decide +kernel
theorem dX3_addBroken_23 : decode cX3_addBroken 23 = .ok (.return_, 1) := by decide +kernel
theorem dX3_throwAway_0 : decode cX3_throwAway 0 = .ok (.aload_n 0, 1) := by decide +kernel
theorem dX3_throwAway_1 : decode cX3_throwAway 1 = .ok (.dup, 1) := by decide +kernel
theorem dX3_throwAway_2 : decode cX3_throwAway 2 = .ok (.getfield 51, 3) := by decide +kernel
theorem dX3_throwAway_5 : decode cX3_throwAway 5 = .ok (.aload_n 0, 1) := by decide +kernel
theorem dX3_throwAway_6 : decode cX3_throwAway 6 = .ok (.invokevirtual 73, 3) := by decide +kernel
theorem dX3_throwAway_9 : decode cX3_throwAway 9 = .ok (.aload_n 0, 1) := by decide +kernel
theorem dX3_throwAway_10 : decode cX3_throwAway 10 = .ok (.getfield 21, 3) := by decide +kernel
theorem dX3_throwAway_13 : decode cX3_throwAway 13 = .ok (.imul, 1) := by decide +kernel
theorem dX3_throwAway_14 : decode cX3_throwAway 14 = .ok (.iadd, 1) := by decide +kernel
theorem dX3_throwAway_15 : decode cX3_throwAway 15 = .ok (.putfield 51, 3) := by decide +kernel
theorem dX3_throwAway_18 : decode cX3_throwAway 18 = .ok (.aload_n 0, 1) := by decide +kernel
theorem dX3_throwAway_19 : decode cX3_throwAway 19 = .ok (.getfield 17, 3) := by decide +kernel
theorem dX3_throwAway_22 : decode cX3_throwAway 22 = .ok (.iconst 0, 1) := by decide +kernel
theorem dX3_throwAway_23 : decode cX3_throwAway 23 = .ok (.invokestatic 76, 3) := by decide +kernel
theorem dX3_throwAway_26 : decode cX3_throwAway 26 = .ok (.return_, 1) := by decide +kernel
theorem dX3_readyOf_0 : decode cX3_readyOf 0 = .ok (.aload_n 0, 1) := by decide +kernel
theorem dX3_readyOf_1 : decode cX3_readyOf 1 = .ok (.iload_n 1, 1) := by decide +kernel
theorem dX3_readyOf_2 : decode cX3_readyOf 2 = .ok (.invokevirtual 69, 3) := by decide +kernel
theorem dX3_readyOf_5 : decode cX3_readyOf 5 = .ok (.istore_n 2, 1) := by decide +kernel
theorem dX3_readyOf_6 : decode cX3_readyOf 6 = .ok (.aload_n 0, 1) := by decide +kernel
theorem dX3_readyOf_7 : decode cX3_readyOf 7 = .ok (.getfield 11, 3) := by decide +kernel
theorem dX3_readyOf_10 : decode cX3_readyOf 10 = .ok (.astore_n 3, 1) := by decide +kernel
theorem dX3_readyOf_11 : decode cX3_readyOf 11 = .ok (.aload_n 3, 1) := by decide +kernel
theorem dX3_readyOf_12 : decode cX3_readyOf 12 = .ok (.arraylength, 1) := by decide +kernel
theorem dX3_readyOf_13 : decode cX3_readyOf 13 = .ok (.istore 4, 2) := by decide +kernel
theorem dX3_readyOf_15 : decode cX3_readyOf 15 = .ok (.iconst 0, 1) := by decide +kernel
theorem dX3_readyOf_16 : decode cX3_readyOf 16 = .ok (.istore 5, 2) := by decide +kernel
theorem dX3_readyOf_18 : decode cX3_readyOf 18 = .ok (.iload 5, 2) := by decide +kernel
theorem dX3_readyOf_20 : decode cX3_readyOf 20 = .ok (.iload 4, 2) := by decide +kernel
theorem dX3_readyOf_22 : decode cX3_readyOf 22 = .ok (.if_icmp .ge 40, 3) := by decide +kernel
theorem dX3_readyOf_25 : decode cX3_readyOf 25 = .ok (.aload_n 3, 1) := by decide +kernel
theorem dX3_readyOf_26 : decode cX3_readyOf 26 = .ok (.iload 5, 2) := by decide +kernel
theorem dX3_readyOf_28 : decode cX3_readyOf 28 = .ok (.aaload, 1) := by decide +kernel
theorem dX3_readyOf_29 : decode cX3_readyOf 29 = .ok (.astore 6, 2) := by decide +kernel
theorem dX3_readyOf_31 : decode cX3_readyOf 31 = .ok (.aload 6, 2) := by decide +kernel
theorem dX3_readyOf_33 : decode cX3_readyOf 33 = .ok (.getfield 82, 3) := by decide +kernel
theorem dX3_readyOf_36 : decode cX3_readyOf 36 = .ok (.iload_n 1, 1) := by decide +kernel
theorem dX3_readyOf_37 : decode cX3_readyOf 37 = .ok (.if_icmp .ne 19, 3) := by decide +kernel
theorem dX3_readyOf_40 : decode cX3_readyOf 40 = .ok (.iload_n 2, 1) := by decide +kernel
theorem dX3_readyOf_41 : decode cX3_readyOf 41 = .ok (.aload 6, 2) := by decide +kernel
theorem dX3_readyOf_43 : decode cX3_readyOf 43 = .ok (.aload_n 0, 1) := by decide +kernel
theorem dX3_readyOf_44 : decode cX3_readyOf 44 = .ok (.getfield 21, 3) := by decide +kernel
theorem dX3_readyOf_47 : decode cX3_readyOf 47 = .ok (.aload_n 0, 1) := by decide +kernel
theorem dX3_readyOf_48 : decode cX3_readyOf 48 = .ok (.getfield 25, 3) := by decide +kernel
theorem dX3_readyOf_51 : decode cX3_readyOf 51 = .ok (.invokevirtual 85, 3) := by decide +kernel
theorem dX3_readyOf_54 : decode cX3_readyOf 54 = .ok (.iadd, 1) := by decide +kernel
theorem dX3_readyOf_55 : decode cX3_readyOf 55 = .ok (.istore_n 2, 1) := by decide +kernel
theorem dX3_readyOf_56 : decode cX3_readyOf 56 = .ok (.iinc 5 1, 3) := by decide +kernel
theorem dX3_readyOf_59 : decode cX3_readyOf 59 = .ok (.goto (-41), 3) := by decide +kernel
theorem dX3_readyOf_62 : decode cX3_readyOf 62 = .ok (.iload_n 2, 1) := by decide +kernel
theorem dX3_readyOf_63 : decode cX3_readyOf 63 = .ok (.ireturn, 1) := by decide +kernel
theorem dX3_nearestShadeOrNone_0 : decode cX3_nearestShadeOrNone 0 = .ok (.iconst (-1), 1) := by decide +kernel
theorem dX3_nearestShadeOrNone_1 : decode cX3_nearestShadeOrNone 1 = .ok (.istore_n 2, 1) := by decide +kernel
theorem dX3_nearestShadeOrNone_2 : decode cX3_nearestShadeOrNone 2 = .ok (.iconst 0, 1) := by decide +kernel
theorem dX3_nearestShadeOrNone_3 : decode cX3_nearestShadeOrNone 3 = .ok (.istore_n 3, 1) := by decide +kernel
theorem dX3_nearestShadeOrNone_4 : decode cX3_nearestShadeOrNone 4 = .ok (.iload_n 3, 1) := by decide +kernel
theorem dX3_nearestShadeOrNone_5 : decode cX3_nearestShadeOrNone 5 = .ok (.aload_n 0, 1) := by decide +kernel
theorem dX3_nearestShadeOrNone_6 : decode cX3_nearestShadeOrNone 6 = .ok (.getfield 17, 3) := by decide +kernel
theorem dX3_nearestShadeOrNone_9 : decode cX3_nearestShadeOrNone 9 = .ok (.arraylength, 1) := by decide +kernel
theorem dX3_nearestShadeOrNone_10 : decode cX3_nearestShadeOrNone 10 = .ok (.if_icmp .ge 25, 3) := by decide +kernel
theorem dX3_nearestShadeOrNone_13 : decode cX3_nearestShadeOrNone 13 = .ok (.aload_n 0, 1) := by decide +kernel
theorem dX3_nearestShadeOrNone_14 : decode cX3_nearestShadeOrNone 14 = .ok (.getfield 17, 3) := by decide +kernel
theorem dX3_nearestShadeOrNone_17 : decode cX3_nearestShadeOrNone 17 = .ok (.iload_n 3, 1) := by decide +kernel
theorem dX3_nearestShadeOrNone_18 : decode cX3_nearestShadeOrNone 18 = .ok (.iaload, 1) := by decide +kernel
theorem dX3_nearestShadeOrNone_19 : decode cX3_nearestShadeOrNone 19 = .ok (.ifCond .le 10, 3) := by decide +kernel
theorem dX3_nearestShadeOrNone_22 : decode cX3_nearestShadeOrNone 22 = .ok (.iload_n 1, 1) := by decide +kernel
theorem dX3_nearestShadeOrNone_23 : decode cX3_nearestShadeOrNone 23 = .ok (.iload_n 2, 1) := by decide +kernel
theorem dX3_nearestShadeOrNone_24 : decode cX3_nearestShadeOrNone 24 = .ok (.iload_n 3, 1) := by decide +kernel
theorem dX3_nearestShadeOrNone_25 : decode cX3_nearestShadeOrNone 25 = .ok (.invokestatic 89, 3) := by decide +kernel
theorem dX3_nearestShadeOrNone_28 : decode cX3_nearestShadeOrNone 28 = .ok (.istore_n 2, 1) := by decide +kernel
theorem dX3_nearestShadeOrNone_29 : decode cX3_nearestShadeOrNone 29 = .ok (.iinc 3 1, 3) := by decide +kernel
theorem dX3_nearestShadeOrNone_32 : decode cX3_nearestShadeOrNone 32 = .ok (.goto (-28), 3) := by decide +kernel
theorem dX3_nearestShadeOrNone_35 : decode cX3_nearestShadeOrNone 35 = .ok (.aload_n 0, 1) := by decide +kernel
theorem dX3_nearestShadeOrNone_36 : decode cX3_nearestShadeOrNone 36 = .ok (.getfield 11, 3) := by decide +kernel
theorem dX3_nearestShadeOrNone_39 : decode cX3_nearestShadeOrNone 39 = .ok (.astore_n 3, 1) := by decide +kernel
theorem dX3_nearestShadeOrNone_40 : decode cX3_nearestShadeOrNone 40 = .ok (.aload_n 3, 1) := by decide +kernel
theorem dX3_nearestShadeOrNone_41 : decode cX3_nearestShadeOrNone 41 = .ok (.arraylength, 1) := by decide +kernel
theorem dX3_nearestShadeOrNone_42 : decode cX3_nearestShadeOrNone 42 = .ok (.istore 4, 2) := by decide +kernel
theorem dX3_nearestShadeOrNone_44 : decode cX3_nearestShadeOrNone 44 = .ok (.iconst 0, 1) := by decide +kernel
theorem dX3_nearestShadeOrNone_45 : decode cX3_nearestShadeOrNone 45 = .ok (.istore 5, 2) := by decide +kernel
theorem dX3_nearestShadeOrNone_47 : decode cX3_nearestShadeOrNone 47 = .ok (.iload 5, 2) := by decide +kernel
theorem dX3_nearestShadeOrNone_49 : decode cX3_nearestShadeOrNone 49 = .ok (.iload 4, 2) := by decide +kernel
theorem dX3_nearestShadeOrNone_51 : decode cX3_nearestShadeOrNone 51 = .ok (.if_icmp .ge 42, 3) := by decide +kernel
theorem dX3_nearestShadeOrNone_54 : decode cX3_nearestShadeOrNone 54 = .ok (.aload_n 3, 1) := by decide +kernel
theorem dX3_nearestShadeOrNone_55 : decode cX3_nearestShadeOrNone 55 = .ok (.iload 5, 2) := by decide +kernel
theorem dX3_nearestShadeOrNone_57 : decode cX3_nearestShadeOrNone 57 = .ok (.aaload, 1) := by decide +kernel
theorem dX3_nearestShadeOrNone_58 : decode cX3_nearestShadeOrNone 58 = .ok (.astore 6, 2) := by decide +kernel
theorem dX3_nearestShadeOrNone_60 : decode cX3_nearestShadeOrNone 60 = .ok (.aload 6, 2) := by decide +kernel
theorem dX3_nearestShadeOrNone_62 : decode cX3_nearestShadeOrNone 62 = .ok (.aload_n 0, 1) := by decide +kernel
theorem dX3_nearestShadeOrNone_63 : decode cX3_nearestShadeOrNone 63 = .ok (.getfield 21, 3) := by decide +kernel
theorem dX3_nearestShadeOrNone_66 : decode cX3_nearestShadeOrNone 66 = .ok (.aload_n 0, 1) := by decide +kernel
theorem dX3_nearestShadeOrNone_67 : decode cX3_nearestShadeOrNone 67 = .ok (.getfield 25, 3) := by decide +kernel
theorem dX3_nearestShadeOrNone_70 : decode cX3_nearestShadeOrNone 70 = .ok (.invokevirtual 93, 3) := by decide +kernel
theorem dX3_nearestShadeOrNone_73 : decode cX3_nearestShadeOrNone 73 = .ok (.ifCond .eq 14, 3) := by decide +kernel
theorem dX3_nearestShadeOrNone_76 : decode cX3_nearestShadeOrNone 76 = .ok (.iload_n 1, 1) := by decide +kernel
theorem dX3_nearestShadeOrNone_77 : decode cX3_nearestShadeOrNone 77 = .ok (.iload_n 2, 1) := by decide +kernel
theorem dX3_nearestShadeOrNone_78 : decode cX3_nearestShadeOrNone 78 = .ok (.aload 6, 2) := by decide +kernel
theorem dX3_nearestShadeOrNone_80 : decode cX3_nearestShadeOrNone 80 = .ok (.getfield 82, 3) := by decide +kernel
theorem dX3_nearestShadeOrNone_83 : decode cX3_nearestShadeOrNone 83 = .ok (.invokestatic 89, 3) := by decide +kernel
theorem dX3_nearestShadeOrNone_86 : decode cX3_nearestShadeOrNone 86 = .ok (.istore_n 2, 1) := by decide +kernel
theorem dX3_nearestShadeOrNone_87 : decode cX3_nearestShadeOrNone 87 = .ok (.iinc 5 1, 3) := by decide +kernel
theorem dX3_nearestShadeOrNone_90 : decode cX3_nearestShadeOrNone 90 = .ok (.goto (-43), 3) := by decide +kernel
theorem dX3_nearestShadeOrNone_93 : decode cX3_nearestShadeOrNone 93 = .ok (.iload_n 2, 1) := by decide +kernel
theorem dX3_nearestShadeOrNone_94 : decode cX3_nearestShadeOrNone 94 = .ok (.ireturn, 1) := by decide +kernel
theorem dX3_nearer_0 : decode cX3_nearer 0 = .ok (.iload_n 1, 1) := by decide +kernel
theorem dX3_nearer_1 : decode cX3_nearer 1 = .ok (.iconst (-1), 1) := by decide +kernel
theorem dX3_nearer_2 : decode cX3_nearer 2 = .ok (.if_icmp .ne 5, 3) := by decide +kernel
theorem dX3_nearer_5 : decode cX3_nearer 5 = .ok (.iload_n 2, 1) := by decide +kernel
theorem dX3_nearer_6 : decode cX3_nearer 6 = .ok (.ireturn, 1) := by decide +kernel
theorem dX3_nearer_7 : decode cX3_nearer 7 = .ok (.iload_n 1, 1) := by decide +kernel
theorem dX3_nearer_8 : decode cX3_nearer 8 = .ok (.iload_n 0, 1) := by decide +kernel
theorem dX3_nearer_9 : decode cX3_nearer 9 = .ok (.isub, 1) := by decide +kernel
theorem dX3_nearer_10 : decode cX3_nearer 10 = .ok (.invokestatic 97, 3) := by decide +kernel
theorem dX3_nearer_13 : decode cX3_nearer 13 = .ok (.istore_n 3, 1) := by decide +kernel
theorem dX3_nearer_14 : decode cX3_nearer 14 = .ok (.iload_n 2, 1) := by decide +kernel
theorem dX3_nearer_15 : decode cX3_nearer 15 = .ok (.iload_n 0, 1) := by decide +kernel
theorem dX3_nearer_16 : decode cX3_nearer 16 = .ok (.isub, 1) := by decide +kernel
theorem dX3_nearer_17 : decode cX3_nearer 17 = .ok (.invokestatic 97, 3) := by decide +kernel
theorem dX3_nearer_20 : decode cX3_nearer 20 = .ok (.istore 4, 2) := by decide +kernel
theorem dX3_nearer_22 : decode cX3_nearer 22 = .ok (.iload_n 3, 1) := by decide +kernel
theorem dX3_nearer_23 : decode cX3_nearer 23 = .ok (.iload 4, 2) := by decide +kernel
theorem dX3_nearer_25 : decode cX3_nearer 25 = .ok (.if_icmp .ne 9, 3) := by decide +kernel
theorem dX3_nearer_28 : decode cX3_nearer 28 = .ok (.iload_n 1, 1) := by decide +kernel
theorem dX3_nearer_29 : decode cX3_nearer 29 = .ok (.iload_n 2, 1) := by decide +kernel
theorem dX3_nearer_30 : decode cX3_nearer 30 = .ok (.invokestatic 102, 3) := by decide +kernel
theorem dX3_nearer_33 : decode cX3_nearer 33 = .ok (.ireturn, 1) := by decide +kernel
theorem dX3_nearer_34 : decode cX3_nearer 34 = .ok (.iload_n 3, 1) := by decide +kernel
theorem dX3_nearer_35 : decode cX3_nearer 35 = .ok (.iload 4, 2) := by decide +kernel
theorem dX3_nearer_37 : decode cX3_nearer 37 = .ok (.if_icmp .ge 7, 3) := by decide +kernel
theorem dX3_nearer_40 : decode cX3_nearer 40 = .ok (.iload_n 1, 1) := by decide +kernel
theorem dX3_nearer_41 : decode cX3_nearer 41 = .ok (.goto 4, 3) := by decide +kernel
theorem dX3_nearer_44 : decode cX3_nearer 44 = .ok (.iload_n 2, 1) := by decide +kernel
theorem dX3_nearer_45 : decode cX3_nearer 45 = .ok (.ireturn, 1) := by decide +kernel
theorem dX3_bringToHand_0 : decode cX3_bringToHand 0 = .ok (.aload_n 0, 1) := by decide +kernel
theorem dX3_bringToHand_1 : decode cX3_bringToHand 1 = .ok (.iload_n 1, 1) := by decide +kernel
theorem dX3_bringToHand_2 : decode cX3_bringToHand 2 = .ok (.invokevirtual 69, 3) := by decide +kernel
theorem dX3_bringToHand_5 : decode cX3_bringToHand 5 = .ok (.ifCond .le 4, 3) := by decide +kernel
theorem dX3_bringToHand_8 : decode cX3_bringToHand 8 = .ok (.return_, 1) := by decide +kernel
theorem dX3_bringToHand_9 : decode cX3_bringToHand 9 = .ok (.aload_n 0, 1) := by decide +kernel
theorem dX3_bringToHand_10 : decode cX3_bringToHand 10 = .ok (.iload_n 1, 1) := by decide +kernel
theorem dX3_bringToHand_11 : decode cX3_bringToHand 11 = .ok (.invokevirtual 105, 3) := by decide +kernel
theorem dX3_bringToHand_14 : decode cX3_bringToHand 14 = .ok (.astore_n 2, 1) := by decide +kernel
theorem dX3_bringToHand_15 : decode cX3_bringToHand 15 = .ok (.aload_n 2, 1) := by decide +kernel
theorem dX3_bringToHand_16 : decode cX3_bringToHand 16 = .ok (.ifnonnull 4, 3) := by decide +kernel
theorem dX3_bringToHand_19 : decode cX3_bringToHand 19 = .ok (.return_, 1) := by decide +kernel
theorem dX3_bringToHand_20 : decode cX3_bringToHand 20 = .ok (.aload_n 2, 1) := by decide +kernel
theorem dX3_bringToHand_21 : decode cX3_bringToHand 21 = .ok (.aload_n 0, 1) := by decide +kernel
theorem dX3_bringToHand_22 : decode cX3_bringToHand 22 = .ok (.getfield 21, 3) := by decide +kernel
theorem dX3_bringToHand_25 : decode cX3_bringToHand 25 = .ok (.aload_n 0, 1) := by decide +kernel
theorem dX3_bringToHand_26 : decode cX3_bringToHand 26 = .ok (.getfield 25, 3) := by decide +kernel
theorem dX3_bringToHand_29 : decode cX3_bringToHand 29 = .ok (.invokevirtual 109, 3) := by decide +kernel
theorem dX3_bringToHand_32 : decode cX3_bringToHand 32 = .ok (.istore_n 3, 1) := by decide +kernel
theorem dX3_bringToHand_33 : decode cX3_bringToHand 33 = .ok (.iconst 0, 1) := by decide +kernel
theorem dX3_bringToHand_34 : decode cX3_bringToHand 34 = .ok (.istore 4, 2) := by decide +kernel
theorem dX3_bringToHand_36 : decode cX3_bringToHand 36 = .ok (.iload 4, 2) := by decide +kernel
theorem dX3_bringToHand_38 : decode cX3_bringToHand 38 = .ok (.iload_n 3, 1) := by decide +kernel
theorem dX3_bringToHand_39 : decode cX3_bringToHand 39 = .ok (.if_icmp .ge 23, 3) := by decide +kernel
theorem dX3_bringToHand_42 : decode cX3_bringToHand 42 = .ok (.aload_n 0, 1) := by decide +kernel
theorem dX3_bringToHand_43 : decode cX3_bringToHand 43 = .ok (.iload_n 1, 1) := by decide +kernel
theorem dX3_bringToHand_44 : decode cX3_bringToHand 44 = .ok (.invokevirtual 69, 3) := by decide +kernel
theorem dX3_bringToHand_47 : decode cX3_bringToHand 47 = .ok (.ifCond .ne 15, 3) := by decide +kernel
theorem dX3_bringToHand_50 : decode cX3_bringToHand 50 = .ok (.aload_n 0, 1) := by decide +kernel
theorem dX3_bringToHand_51 : decode cX3_bringToHand 51 = .ok (.aload_n 2, 1) := by decide +kernel
theorem dX3_bringToHand_52 : decode cX3_bringToHand 52 = .ok (.invokevirtual 112, 3) := by decide +kernel
theorem dX3_bringToHand_55 : decode cX3_bringToHand 55 = .ok (.pop, 1) := by decide +kernel
theorem dX3_bringToHand_56 : decode cX3_bringToHand 56 = .ok (.iinc 4 1, 3) := by decide +kernel
theorem dX3_bringToHand_59 : decode cX3_bringToHand 59 = .ok (.goto (-23), 3) := by decide +kernel
theorem dX3_bringToHand_62 : decode cX3_bringToHand 62 = .ok (.return_, 1) := by decide +kernel
theorem dX3_firstStripGivingOrNull_0 : decode cX3_firstStripGivingOrNull 0 = .ok (.aload_n 0, 1) := by decide +kernel
theorem dX3_firstStripGivingOrNull_1 : decode cX3_firstStripGivingOrNull 1 = .ok (.getfield 11, 3) := by decide +kernel
theorem dX3_firstStripGivingOrNull_4 : decode cX3_firstStripGivingOrNull 4 = .ok (.astore_n 2, 1) := by decide +kernel
theorem dX3_firstStripGivingOrNull_5 : decode cX3_firstStripGivingOrNull 5 = .ok (.aload_n 2, 1) := by decide +kernel
theorem dX3_firstStripGivingOrNull_6 : decode cX3_firstStripGivingOrNull 6 = .ok (.arraylength, 1) := by decide +kernel
theorem dX3_firstStripGivingOrNull_7 : decode cX3_firstStripGivingOrNull 7 = .ok (.istore_n 3, 1) := by decide +kernel
theorem dX3_firstStripGivingOrNull_8 : decode cX3_firstStripGivingOrNull 8 = .ok (.iconst 0, 1) := by decide +kernel
theorem dX3_firstStripGivingOrNull_9 : decode cX3_firstStripGivingOrNull 9 = .ok (.istore 4, 2) := by decide +kernel
theorem dX3_firstStripGivingOrNull_11 : decode cX3_firstStripGivingOrNull 11 = .ok (.iload 4, 2) := by decide +kernel
theorem dX3_firstStripGivingOrNull_13 : decode cX3_firstStripGivingOrNull 13 = .ok (.iload_n 3, 1) := by decide +kernel
theorem dX3_firstStripGivingOrNull_14 : decode cX3_firstStripGivingOrNull 14 = .ok (.if_icmp .ge 43, 3) := by decide +kernel
theorem dX3_firstStripGivingOrNull_17 : decode cX3_firstStripGivingOrNull 17 = .ok (.aload_n 2, 1) := by decide +kernel
theorem dX3_firstStripGivingOrNull_18 : decode cX3_firstStripGivingOrNull 18 = .ok (.iload 4, 2) := by decide +kernel
theorem dX3_firstStripGivingOrNull_20 : decode cX3_firstStripGivingOrNull 20 = .ok (.aaload, 1) := by decide +kernel
theorem dX3_firstStripGivingOrNull_21 : decode cX3_firstStripGivingOrNull 21 = .ok (.astore 5, 2) := by decide +kernel
theorem dX3_firstStripGivingOrNull_23 : decode cX3_firstStripGivingOrNull 23 = .ok (.aload 5, 2) := by decide +kernel
theorem dX3_firstStripGivingOrNull_25 : decode cX3_firstStripGivingOrNull 25 = .ok (.getfield 82, 3) := by decide +kernel
theorem dX3_firstStripGivingOrNull_28 : decode cX3_firstStripGivingOrNull 28 = .ok (.iload_n 1, 1) := by decide +kernel
theorem dX3_firstStripGivingOrNull_29 : decode cX3_firstStripGivingOrNull 29 = .ok (.if_icmp .ne 22, 3) := by decide +kernel
theorem dX3_firstStripGivingOrNull_32 : decode cX3_firstStripGivingOrNull 32 = .ok (.aload 5, 2) := by decide +kernel
theorem dX3_firstStripGivingOrNull_34 : decode cX3_firstStripGivingOrNull 34 = .ok (.aload_n 0, 1) := by decide +kernel
theorem dX3_firstStripGivingOrNull_35 : decode cX3_firstStripGivingOrNull 35 = .ok (.getfield 21, 3) := by decide +kernel
theorem dX3_firstStripGivingOrNull_38 : decode cX3_firstStripGivingOrNull 38 = .ok (.aload_n 0, 1) := by decide +kernel
theorem dX3_firstStripGivingOrNull_39 : decode cX3_firstStripGivingOrNull 39 = .ok (.getfield 25, 3) := by decide +kernel
theorem dX3_firstStripGivingOrNull_42 : decode cX3_firstStripGivingOrNull 42 = .ok (.invokevirtual 93, 3) := by decide +kernel
theorem dX3_firstStripGivingOrNull_45 : decode cX3_firstStripGivingOrNull 45 = .ok (.ifCond .eq 6, 3) := by decide +kernel
theorem dX3_firstStripGivingOrNull_48 : decode cX3_firstStripGivingOrNull 48 = .ok (.aload 5, 2) := by decide +kernel
theorem dX3_firstStripGivingOrNull_50 : decode cX3_firstStripGivingOrNull 50 = .ok (.areturn, 1) := by decide +kernel
theorem dX3_firstStripGivingOrNull_51 : decode cX3_firstStripGivingOrNull 51 = .ok (.iinc 4 1, 3) := by decide +kernel
theorem dX3_firstStripGivingOrNull_54 : decode cX3_firstStripGivingOrNull 54 = .ok (.goto (-43), 3) := by decide +kernel
theorem dX3_firstStripGivingOrNull_57 : decode cX3_firstStripGivingOrNull 57 = .ok (.aconst_null, 1) := by decide +kernel
theorem dX3_firstStripGivingOrNull_58 : decode cX3_firstStripGivingOrNull 58 = .ok (.areturn, 1) := by decide +kernel
theorem dX3_cutFrom_0 : decode cX3_cutFrom 0 = .ok (.aload_n 1, 1) := by decide +kernel
theorem dX3_cutFrom_1 : decode cX3_cutFrom 1 = .ok (.invokevirtual 61, 3) := by decide +kernel
theorem dX3_cutFrom_4 : decode cX3_cutFrom 4 = .ok (.istore_n 2, 1) := by decide +kernel
theorem dX3_cutFrom_5 : decode cX3_cutFrom 5 = .ok (.aload_n 1, 1) := by decide +kernel
theorem dX3_cutFrom_6 : decode cX3_cutFrom 6 = .ok (.aload_n 0, 1) := by decide +kernel
theorem dX3_cutFrom_7 : decode cX3_cutFrom 7 = .ok (.getfield 21, 3) := by decide +kernel
theorem dX3_cutFrom_10 : decode cX3_cutFrom 10 = .ok (.aload_n 0, 1) := by decide +kernel
theorem dX3_cutFrom_11 : decode cX3_cutFrom 11 = .ok (.getfield 25, 3) := by decide +kernel
theorem dX3_cutFrom_14 : decode cX3_cutFrom 14 = .ok (.invokevirtual 116, 3) := by decide +kernel
theorem dX3_cutFrom_17 : decode cX3_cutFrom 17 = .ok (.istore_n 3, 1) := by decide +kernel
theorem dX3_cutFrom_18 : decode cX3_cutFrom 18 = .ok (.aload_n 0, 1) := by decide +kernel
theorem dX3_cutFrom_19 : decode cX3_cutFrom 19 = .ok (.dup, 1) := by decide +kernel
theorem dX3_cutFrom_20 : decode cX3_cutFrom 20 = .ok (.getfield 48, 3) := by decide +kernel
theorem dX3_cutFrom_23 : decode cX3_cutFrom 23 = .ok (.iload_n 2, 1) := by decide +kernel
theorem dX3_cutFrom_24 : decode cX3_cutFrom 24 = .ok (.aload_n 0, 1) := by decide +kernel
theorem dX3_cutFrom_25 : decode cX3_cutFrom 25 = .ok (.getfield 21, 3) := by decide +kernel
theorem dX3_cutFrom_28 : decode cX3_cutFrom 28 = .ok (.isub, 1) := by decide +kernel
theorem dX3_cutFrom_29 : decode cX3_cutFrom 29 = .ok (.aload_n 1, 1) := by decide +kernel
theorem dX3_cutFrom_30 : decode cX3_cutFrom 30 = .ok (.invokevirtual 61, 3) := by decide +kernel
theorem dX3_cutFrom_33 : decode cX3_cutFrom 33 = .ok (.isub, 1) := by decide +kernel
theorem dX3_cutFrom_34 : decode cX3_cutFrom 34 = .ok (.iadd, 1) := by decide +kernel
theorem dX3_cutFrom_35 : decode cX3_cutFrom 35 = .ok (.putfield 48, 3) := by decide +kernel
theorem dX3_cutFrom_38 : decode cX3_cutFrom 38 = .ok (.iload_n 3, 1) := by decide +kernel
theorem dX3_cutFrom_39 : decode cX3_cutFrom 39 = .ok (.ifCond .eq 14, 3) := by decide +kernel
theorem dX3_cutFrom_42 : decode cX3_cutFrom 42 = .ok (.aload_n 0, 1) := by decide +kernel
theorem dX3_cutFrom_43 : decode cX3_cutFrom 43 = .ok (.aload_n 1, 1) := by decide +kernel
theorem dX3_cutFrom_44 : decode cX3_cutFrom 44 = .ok (.getfield 82, 3) := by decide +kernel
theorem dX3_cutFrom_47 : decode cX3_cutFrom 47 = .ok (.invokevirtual 119, 3) := by decide +kernel
theorem dX3_cutFrom_50 : decode cX3_cutFrom 50 = .ok (.goto 7, 3) := by decide +kernel
theorem dX3_cutFrom_53 : decode cX3_cutFrom 53 = .ok (.aload_n 0, 1) := by decide +kernel
theorem dX3_cutFrom_54 : decode cX3_cutFrom 54 = .ok (.invokevirtual 123, 3) := by decide +kernel
theorem dX3_cutFrom_57 : decode cX3_cutFrom 57 = .ok (.iload_n 3, 1) := by decide +kernel
theorem dX3_cutFrom_58 : decode cX3_cutFrom 58 = .ok (.ireturn, 1) := by decide +kernel
theorem dX4_init_0 : decode cX4_init 0 = .ok (.aload_n 0, 1) := by decide +kernel
theorem dX4_init_1 : decode cX4_init 1 = .ok (.invokespecial 3, 3) := by decide +kernel
theorem dX4_init_4 : decode cX4_init 4 = .ok (.aload_n 0, 1) := by decide +kernel
theorem dX4_init_5 : decode cX4_init 5 = .ok (.bipush 6, 2) := by decide +kernel
theorem dX4_init_7 : decode cX4_init 7 = .ok (.newarray .int, 2) := by decide +kernel
theorem dX4_init_9 : decode cX4_init 9 = .ok (.putfield 9, 3) := by decide +kernel
theorem dX4_init_12 : decode cX4_init 12 = .ok (.return_, 1) := by decide +kernel
theorem dX4_begin_0 : decode cX4_begin 0 = .ok (.aload_n 0, 1) := by decide +kernel
theorem dX4_begin_1 : decode cX4_begin 1 = .ok (.iload_n 1, 1) := by decide +kernel
theorem dX4_begin_2 : decode cX4_begin 2 = .ok (.putfield 15, 3) := by decide +kernel
theorem dX4_begin_5 : decode cX4_begin 5 = .ok (.aload_n 0, 1) := by decide +kernel
theorem dX4_begin_6 : decode cX4_begin 6 = .ok (.iload_n 2, 1) := by decide +kernel
theorem dX4_begin_7 : decode cX4_begin 7 = .ok (.putfield 19, 3) := by decide +kernel
theorem dX4_begin_10 : decode cX4_begin 10 = .ok (.aload_n 0, 1) := by decide +kernel
theorem dX4_begin_11 : decode cX4_begin 11 = .ok (.iconst 0, 1) := by decide +kernel
theorem dX4_begin_12 : decode cX4_begin 12 = .ok (.putfield 22, 3) := by decide +kernel
theorem dX4_begin_15 : decode cX4_begin 15 = .ok (.aload_n 0, 1) := by decide +kernel
theorem dX4_begin_16 : decode cX4_begin 16 = .ok (.iconst 0, 1) := by decide +kernel
theorem dX4_begin_17 : decode cX4_begin 17 = .ok (.putfield 25, 3) := by decide +kernel
theorem dX4_begin_20 : decode cX4_begin 20 = .ok (.aload_n 0, 1) := by decide +kernel
theorem dX4_begin_21 : decode cX4_begin 21 = .ok (.iconst 0, 1) := by decide +kernel
theorem dX4_begin_22 : decode cX4_begin 22 = .ok (.putfield 28, 3) := by decide +kernel
theorem dX4_begin_25 : decode cX4_begin 25 = .ok (.return_, 1) := by decide +kernel
theorem dX4_copyFrom_0 : decode cX4_copyFrom 0 = .ok (.aload_n 1, 1) := by decide +kernel
theorem dX4_copyFrom_1 : decode cX4_copyFrom 1 = .ok (.getfield 9, 3) := by decide +kernel
theorem dX4_copyFrom_4 : decode cX4_copyFrom 4 = .ok (.iconst 0, 1) := by decide +kernel
theorem dX4_copyFrom_5 : decode cX4_copyFrom 5 = .ok (.aload_n 0, 1) := by decide +kernel
theorem dX4_copyFrom_6 : decode cX4_copyFrom 6 = .ok (.getfield 9, 3) := by decide +kernel
theorem dX4_copyFrom_9 : decode cX4_copyFrom 9 = .ok (.iconst 0, 1) := by decide +kernel
theorem dX4_copyFrom_10 : decode cX4_copyFrom 10 = .ok (.aload_n 0, 1) := by decide +kernel
theorem dX4_copyFrom_11 : decode cX4_copyFrom 11 = .ok (.getfield 9, 3) := by decide +kernel
theorem dX4_copyFrom_14 : decode cX4_copyFrom 14 = .ok (.arraylength, 1) := by decide +kernel
theorem dX4_copyFrom_15 : decode cX4_copyFrom 15 = .ok (.invokestatic 31, 3) := by decide +kernel
theorem dX4_copyFrom_18 : decode cX4_copyFrom 18 = .ok (.aload_n 0, 1) := by decide +kernel
theorem dX4_copyFrom_19 : decode cX4_copyFrom 19 = .ok (.aload_n 1, 1) := by decide +kernel
theorem dX4_copyFrom_20 : decode cX4_copyFrom 20 = .ok (.getfield 25, 3) := by decide +kernel
theorem dX4_copyFrom_23 : decode cX4_copyFrom 23 = .ok (.putfield 25, 3) := by decide +kernel
theorem dX4_copyFrom_26 : decode cX4_copyFrom 26 = .ok (.aload_n 0, 1) := by decide +kernel
theorem dX4_copyFrom_27 : decode cX4_copyFrom 27 = .ok (.aload_n 1, 1) := by decide +kernel
theorem dX4_copyFrom_28 : decode cX4_copyFrom 28 = .ok (.getfield 15, 3) := by decide +kernel
theorem dX4_copyFrom_31 : decode cX4_copyFrom 31 = .ok (.putfield 15, 3) := by decide +kernel
theorem dX4_copyFrom_34 : decode cX4_copyFrom 34 = .ok (.aload_n 0, 1) := by decide +kernel
theorem dX4_copyFrom_35 : decode cX4_copyFrom 35 = .ok (.aload_n 1, 1) := by decide +kernel
theorem dX4_copyFrom_36 : decode cX4_copyFrom 36 = .ok (.getfield 19, 3) := by decide +kernel
theorem dX4_copyFrom_39 : decode cX4_copyFrom 39 = .ok (.putfield 19, 3) := by decide +kernel
theorem dX4_copyFrom_42 : decode cX4_copyFrom 42 = .ok (.aload_n 0, 1) := by decide +kernel
theorem dX4_copyFrom_43 : decode cX4_copyFrom 43 = .ok (.aload_n 1, 1) := by decide +kernel
theorem dX4_copyFrom_44 : decode cX4_copyFrom 44 = .ok (.getfield 22, 3) := by decide +kernel
theorem dX4_copyFrom_47 : decode cX4_copyFrom 47 = .ok (.putfield 22, 3) := by decide +kernel
theorem dX4_copyFrom_50 : decode cX4_copyFrom 50 = .ok (.aload_n 0, 1) := by decide +kernel
theorem dX4_copyFrom_51 : decode cX4_copyFrom 51 = .ok (.aload_n 1, 1) := by decide +kernel
theorem dX4_copyFrom_52 : decode cX4_copyFrom 52 = .ok (.getfield 28, 3) := by decide +kernel
theorem dX4_copyFrom_55 : decode cX4_copyFrom 55 = .ok (.putfield 28, 3) := by decide +kernel
theorem dX4_copyFrom_58 : decode cX4_copyFrom 58 = .ok (.return_, 1) := by decide +kernel
theorem dX4_left_0 : decode cX4_left 0 = .ok (.aload_n 0, 1) := by decide +kernel
theorem dX4_left_1 : decode cX4_left 1 = .ok (.getfield 15, 3) := by decide +kernel
theorem dX4_left_4 : decode cX4_left 4 = .ok (.aload_n 0, 1) := by decide +kernel
theorem dX4_left_5 : decode cX4_left 5 = .ok (.getfield 22, 3) := by decide +kernel
theorem dX4_left_8 : decode cX4_left 8 = .ok (.isub, 1) := by decide +kernel
theorem dX4_left_9 : decode cX4_left 9 = .ok (.ireturn, 1) := by decide +kernel
theorem dX4_addFlaw_0 : decode cX4_addFlaw 0 = .ok (.aload_n 0, 1) := by decide +kernel
theorem dX4_addFlaw_1 : decode cX4_addFlaw 1 = .ok (.getfield 25, 3) := by decide +kernel
theorem dX4_addFlaw_4 : decode cX4_addFlaw 4 = .ok (.aload_n 0, 1) := by decide +kernel
theorem dX4_addFlaw_5 : decode cX4_addFlaw 5 = .ok (.getfield 9, 3) := by decide +kernel
theorem dX4_addFlaw_8 : decode cX4_addFlaw 8 = .ok (.arraylength, 1) := by decide +kernel
theorem dX4_addFlaw_9 : decode cX4_addFlaw 9 = .ok (.if_icmp .ge 23, 3) := by decide +kernel
theorem dX4_addFlaw_12 : decode cX4_addFlaw 12 = .ok (.aload_n 0, 1) := by decide +kernel
theorem dX4_addFlaw_13 : decode cX4_addFlaw 13 = .ok (.getfield 9, 3) := by decide +kernel
theorem dX4_addFlaw_16 : decode cX4_addFlaw 16 = .ok (.aload_n 0, 1) := by decide +kernel
theorem dX4_addFlaw_17 : decode cX4_addFlaw 17 = .ok (.getfield 25, 3) := by decide +kernel
theorem dX4_addFlaw_20 : decode cX4_addFlaw 20 = .ok (.iload_n 1, 1) := by decide +kernel
theorem dX4_addFlaw_21 : decode cX4_addFlaw 21 = .ok (.iastore, 1) := by decide +kernel
theorem dX4_addFlaw_22 : decode cX4_addFlaw 22 = .ok (.aload_n 0, 1) := by decide +kernel
theorem dX4_addFlaw_23 : decode cX4_addFlaw 23 = .ok (.dup, 1) := by decide +kernel
theorem dX4_addFlaw_24 : decode cX4_addFlaw 24 = .ok (.getfield 25, 3) := by decide +kernel
theorem dX4_addFlaw_27 : decode cX4_addFlaw 27 = .ok (.iconst 1, 1) := by decide +kernel
theorem dX4_addFlaw_28 : decode cX4_addFlaw 28 = .ok (.iadd, 1) := by decide +kernel
theorem dX4_addFlaw_29 : decode cX4_addFlaw 29 = .ok (.putfield 25, 3) := by decide +kernel
theorem dX4_addFlaw_32 : decode cX4_addFlaw 32 = .ok (.return_, 1) := by decide +kernel
theorem dX4_hasFlawIn_0 : decode cX4_hasFlawIn 0 = .ok (.iconst 0, 1) := by decide +kernel
theorem dX4_hasFlawIn_1 : decode cX4_hasFlawIn 1 = .ok (.istore_n 3, 1) := by decide +kernel
theorem dX4_hasFlawIn_2 : decode cX4_hasFlawIn 2 = .ok (.iload_n 3, 1) := by decide +kernel
theorem dX4_hasFlawIn_3 : decode cX4_hasFlawIn 3 = .ok (.aload_n 0, 1) := by decide +kernel
theorem dX4_hasFlawIn_4 : decode cX4_hasFlawIn 4 = .ok (.getfield 25, 3) := by decide +kernel
theorem dX4_hasFlawIn_7 : decode cX4_hasFlawIn 7 = .ok (.if_icmp .ge 40, 3) := by decide +kernel
theorem dX4_hasFlawIn_10 : decode cX4_hasFlawIn 10 = .ok (.iload_n 3, 1) := by decide +kernel
theorem dX4_hasFlawIn_11 : decode cX4_hasFlawIn 11 = .ok (.aload_n 0, 1) := by decide +kernel
theorem dX4_hasFlawIn_12 : decode cX4_hasFlawIn 12 = .ok (.getfield 9, 3) := by decide +kernel
theorem dX4_hasFlawIn_15 : decode cX4_hasFlawIn 15 = .ok (.arraylength, 1) := by decide +kernel
theorem dX4_hasFlawIn_16 : decode cX4_hasFlawIn 16 = .ok (.if_icmp .ge 31, 3) := by decide +kernel
theorem dX4_hasFlawIn_19 : decode cX4_hasFlawIn 19 = .ok (.aload_n 0, 1) := by decide +kernel
theorem dX4_hasFlawIn_20 : decode cX4_hasFlawIn 20 = .ok (.getfield 9, 3) := by decide +kernel
theorem dX4_hasFlawIn_23 : decode cX4_hasFlawIn 23 = .ok (.iload_n 3, 1) := by decide +kernel
theorem dX4_hasFlawIn_24 : decode cX4_hasFlawIn 24 = .ok (.iaload, 1) := by decide +kernel
theorem dX4_hasFlawIn_25 : decode cX4_hasFlawIn 25 = .ok (.iload_n 1, 1) := by decide +kernel
theorem dX4_hasFlawIn_26 : decode cX4_hasFlawIn 26 = .ok (.if_icmp .lt 15, 3) := by decide +kernel
theorem dX4_hasFlawIn_29 : decode cX4_hasFlawIn 29 = .ok (.aload_n 0, 1) := by decide +kernel
theorem dX4_hasFlawIn_30 : decode cX4_hasFlawIn 30 = .ok (.getfield 9, 3) := by decide +kernel
theorem dX4_hasFlawIn_33 : decode cX4_hasFlawIn 33 = .ok (.iload_n 3, 1) := by decide +kernel
theorem dX4_hasFlawIn_34 : decode cX4_hasFlawIn 34 = .ok (.iaload, 1) := by decide +kernel
theorem dX4_hasFlawIn_35 : decode cX4_hasFlawIn 35 = .ok (.iload_n 2, 1) := by decide +kernel
theorem dX4_hasFlawIn_36 : decode cX4_hasFlawIn 36 = .ok (.if_icmp .ge 5, 3) := by decide +kernel
theorem dX4_hasFlawIn_39 : decode cX4_hasFlawIn 39 = .ok (.iconst 1, 1) := by decide +kernel
theorem dX4_hasFlawIn_40 : decode cX4_hasFlawIn 40 = .ok (.ireturn, 1) := by decide +kernel
theorem dX4_hasFlawIn_41 : decode cX4_hasFlawIn 41 = .ok (.iinc 3 1, 3) := by decide +kernel
theorem dX4_hasFlawIn_44 : decode cX4_hasFlawIn 44 = .ok (.goto (-42), 3) := by decide +kernel
theorem dX4_hasFlawIn_47 : decode cX4_hasFlawIn 47 = .ok (.iconst 0, 1) := by decide +kernel
theorem dX4_hasFlawIn_48 : decode cX4_hasFlawIn 48 = .ok (.ireturn, 1) := by decide +kernel
theorem dX4_tesseraeAhead_0 : decode cX4_tesseraeAhead 0 = .ok (.aload_n 0, 1) := by decide +kernel
theorem dX4_tesseraeAhead_1 : decode cX4_tesseraeAhead 1 = .ok (.getfield 15, 3) := by decide +kernel
theorem dX4_tesseraeAhead_4 : decode cX4_tesseraeAhead 4 = .ok (.aload_n 0, 1) := by decide +kernel
theorem dX4_tesseraeAhead_5 : decode cX4_tesseraeAhead 5 = .ok (.getfield 22, 3) := by decide +kernel
theorem dX4_tesseraeAhead_8 : decode cX4_tesseraeAhead 8 = .ok (.isub, 1) := by decide +kernel
theorem dX4_tesseraeAhead_9 : decode cX4_tesseraeAhead 9 = .ok (.istore_n 3, 1) := by decide +kernel
theorem dX4_tesseraeAhead_10 : decode cX4_tesseraeAhead 10 = .ok (.iload_n 1, 1) := by decide +kernel
theorem dX4_tesseraeAhead_11 : decode cX4_tesseraeAhead 11 = .ok (.iload_n 2, 1) := by decide +kernel
theorem dX4_tesseraeAhead_12 : decode cX4_tesseraeAhead 12 = .ok (.iadd, 1) := by decide +kernel
theorem dX4_tesseraeAhead_13 : decode cX4_tesseraeAhead 13 = .ok (.istore 4, 2) := by decide +kernel
theorem dX4_tesseraeAhead_15 : decode cX4_tesseraeAhead 15 = .ok (.iload 4, 2) := by decide +kernel
theorem dX4_tesseraeAhead_17 : decode cX4_tesseraeAhead 17 = .ok (.ifCond .le 8, 3) := by decide +kernel
theorem dX4_tesseraeAhead_20 : decode cX4_tesseraeAhead 20 = .ok (.iload_n 3, 1) := by decide +kernel
theorem dX4_tesseraeAhead_21 : decode cX4_tesseraeAhead 21 = .ok (.iload_n 1, 1) := by decide +kernel
theorem dX4_tesseraeAhead_22 : decode cX4_tesseraeAhead 22 = .ok (.if_icmp .ge 5, 3) := by decide +kernel
theorem dX4_tesseraeAhead_25 : decode cX4_tesseraeAhead 25 = .ok (.iconst 0, 1) := by decide +kernel
theorem dX4_tesseraeAhead_26 : decode cX4_tesseraeAhead 26 = .ok (.ireturn, 1) := by decide +kernel
theorem dX4_tesseraeAhead_27 : decode cX4_tesseraeAhead 27 = .ok (.iload_n 3, 1) := by decide +kernel
theorem dX4_tesseraeAhead_28 : decode cX4_tesseraeAhead 28 = .ok (.iload_n 1, 1) := by decide +kernel
theorem dX4_tesseraeAhead_29 : decode cX4_tesseraeAhead 29 = .ok (.isub, 1) := by decide +kernel
theorem dX4_tesseraeAhead_30 : decode cX4_tesseraeAhead 30 = .ok (.iload 4, 2) := by decide +kernel
theorem dX4_tesseraeAhead_32 : decode cX4_tesseraeAhead 32 = .ok (.idiv, 1) := by decide +kernel
theorem dX4_tesseraeAhead_33 : decode cX4_tesseraeAhead 33 = .ok (.iconst 1, 1) := by decide +kernel
theorem dX4_tesseraeAhead_34 : decode cX4_tesseraeAhead 34 = .ok (.iadd, 1) := by decide +kernel
theorem dX4_tesseraeAhead_35 : decode cX4_tesseraeAhead 35 = .ok (.ireturn, 1) := by decide +kernel
theorem dX4_goodTesseraeAhead_0 : decode cX4_goodTesseraeAhead 0 = .ok (.aload_n 0, 1) := by decide +kernel
theorem dX4_goodTesseraeAhead_1 : decode cX4_goodTesseraeAhead 1 = .ok (.iload_n 1, 1) := by decide +kernel
theorem dX4_goodTesseraeAhead_2 : decode cX4_goodTesseraeAhead 2 = .ok (.iload_n 2, 1) := by decide +kernel
theorem dX4_goodTesseraeAhead_3 : decode cX4_goodTesseraeAhead 3 = .ok (.invokevirtual 37, 3) := by decide +kernel
theorem dX4_goodTesseraeAhead_6 : decode cX4_goodTesseraeAhead 6 = .ok (.istore_n 3, 1) := by decide +kernel
theorem dX4_goodTesseraeAhead_7 : decode cX4_goodTesseraeAhead 7 = .ok (.iconst 0, 1) := by decide +kernel
theorem dX4_goodTesseraeAhead_8 : decode cX4_goodTesseraeAhead 8 = .ok (.istore 4, 2) := by decide +kernel
theorem dX4_goodTesseraeAhead_10 : decode cX4_goodTesseraeAhead 10 = .ok (.aload_n 0, 1) := by decide +kernel
theorem dX4_goodTesseraeAhead_11 : decode cX4_goodTesseraeAhead 11 = .ok (.getfield 22, 3) := by decide +kernel
theorem dX4_goodTesseraeAhead_14 : decode cX4_goodTesseraeAhead 14 = .ok (.istore 5, 2) := by decide +kernel
theorem dX4_goodTesseraeAhead_16 : decode cX4_goodTesseraeAhead 16 = .ok (.iconst 0, 1) := by decide +kernel
theorem dX4_goodTesseraeAhead_17 : decode cX4_goodTesseraeAhead 17 = .ok (.istore 6, 2) := by decide +kernel
theorem dX4_goodTesseraeAhead_19 : decode cX4_goodTesseraeAhead 19 = .ok (.iload 6, 2) := by decide +kernel
theorem dX4_goodTesseraeAhead_21 : decode cX4_goodTesseraeAhead 21 = .ok (.iload_n 3, 1) := by decide +kernel
theorem dX4_goodTesseraeAhead_22 : decode cX4_goodTesseraeAhead 22 = .ok (.if_icmp .ge 33, 3) := by decide +kernel
theorem dX4_goodTesseraeAhead_25 : decode cX4_goodTesseraeAhead 25 = .ok (.aload_n 0, 1) := by decide +kernel
theorem dX4_goodTesseraeAhead_26 : decode cX4_goodTesseraeAhead 26 = .ok (.iload 5, 2) := by decide +kernel
theorem dX4_goodTesseraeAhead_28 : decode cX4_goodTesseraeAhead 28 = .ok (.iload 5, 2) := by decide +kernel
theorem dX4_goodTesseraeAhead_30 : decode cX4_goodTesseraeAhead 30 = .ok (.iload_n 1, 1) := by decide +kernel
theorem dX4_goodTesseraeAhead_31 : decode cX4_goodTesseraeAhead 31 = .ok (.iadd, 1) := by decide +kernel
theorem dX4_goodTesseraeAhead_32 : decode cX4_goodTesseraeAhead 32 = .ok (.invokevirtual 41, 3) := by decide +kernel
theorem dX4_goodTesseraeAhead_35 : decode cX4_goodTesseraeAhead 35 = .ok (.ifCond .ne 6, 3) := by decide +kernel
theorem dX4_goodTesseraeAhead_38 : decode cX4_goodTesseraeAhead 38 = .ok (.iinc 4 1, 3) := by decide +kernel
theorem dX4_goodTesseraeAhead_41 : decode cX4_goodTesseraeAhead 41 = .ok (.iload 5, 2) := by decide +kernel
theorem dX4_goodTesseraeAhead_43 : decode cX4_goodTesseraeAhead 43 = .ok (.iload_n 1, 1) := by decide +kernel
theorem dX4_goodTesseraeAhead_44 : decode cX4_goodTesseraeAhead 44 = .ok (.iload_n 2, 1) := by decide +kernel
theorem dX4_goodTesseraeAhead_45 : decode cX4_goodTesseraeAhead 45 = .ok (.iadd, 1) := by decide +kernel
theorem dX4_goodTesseraeAhead_46 : decode cX4_goodTesseraeAhead 46 = .ok (.iadd, 1) := by decide +kernel
theorem dX4_goodTesseraeAhead_47 : decode cX4_goodTesseraeAhead 47 = .ok (.istore 5, 2) := by decide +kernel
theorem dX4_goodTesseraeAhead_49 : decode cX4_goodTesseraeAhead 49 = .ok (.iinc 6 1, 3) := by decide +kernel
theorem dX4_goodTesseraeAhead_52 : decode cX4_goodTesseraeAhead 52 = .ok (.goto (-33), 3) := by decide +kernel
theorem dX4_goodTesseraeAhead_55 : decode cX4_goodTesseraeAhead 55 = .ok (.iload 4, 2) := by decide +kernel
theorem dX4_goodTesseraeAhead_57 : decode cX4_goodTesseraeAhead 57 = .ok (.ireturn, 1) := by decide +kernel
theorem dX4_givesGood_0 : decode cX4_givesGood 0 = .ok (.aload_n 0, 1) := by decide +kernel
theorem dX4_givesGood_1 : decode cX4_givesGood 1 = .ok (.iload_n 1, 1) := by decide +kernel
theorem dX4_givesGood_2 : decode cX4_givesGood 2 = .ok (.iload_n 2, 1) := by decide +kernel
theorem dX4_givesGood_3 : decode cX4_givesGood 3 = .ok (.invokevirtual 37, 3) := by decide +kernel
theorem dX4_givesGood_6 : decode cX4_givesGood 6 = .ok (.istore_n 3, 1) := by decide +kernel
theorem dX4_givesGood_7 : decode cX4_givesGood 7 = .ok (.aload_n 0, 1) := by decide +kernel
theorem dX4_givesGood_8 : decode cX4_givesGood 8 = .ok (.getfield 22, 3) := by decide +kernel
theorem dX4_givesGood_11 : decode cX4_givesGood 11 = .ok (.istore 4, 2) := by decide +kernel
theorem dX4_givesGood_13 : decode cX4_givesGood 13 = .ok (.iconst 0, 1) := by decide +kernel
theorem dX4_givesGood_14 : decode cX4_givesGood 14 = .ok (.istore 5, 2) := by decide +kernel
theorem dX4_givesGood_16 : decode cX4_givesGood 16 = .ok (.iload 5, 2) := by decide +kernel
theorem dX4_givesGood_18 : decode cX4_givesGood 18 = .ok (.iload_n 3, 1) := by decide +kernel
theorem dX4_givesGood_19 : decode cX4_givesGood 19 = .ok (.if_icmp .ge 32, 3) := by decide +kernel
theorem dX4_givesGood_22 : decode cX4_givesGood 22 = .ok (.aload_n 0, 1) := by decide +kernel
theorem dX4_givesGood_23 : decode cX4_givesGood 23 = .ok (.iload 4, 2) := by decide +kernel
theorem dX4_givesGood_25 : decode cX4_givesGood 25 = .ok (.iload 4, 2) := by decide +kernel
theorem dX4_givesGood_27 : decode cX4_givesGood 27 = .ok (.iload_n 1, 1) := by decide +kernel
theorem dX4_givesGood_28 : decode cX4_givesGood 28 = .ok (.iadd, 1) := by decide +kernel
theorem dX4_givesGood_29 : decode cX4_givesGood 29 = .ok (.invokevirtual 41, 3) := by decide +kernel
theorem dX4_givesGood_32 : decode cX4_givesGood 32 = .ok (.ifCond .ne 5, 3) := by decide +kernel
theorem dX4_givesGood_35 : decode cX4_givesGood 35 = .ok (.iconst 1, 1) := by decide +kernel
theorem dX4_givesGood_36 : decode cX4_givesGood 36 = .ok (.ireturn, 1) := by decide +kernel
theorem dX4_givesGood_37 : decode cX4_givesGood 37 = .ok (.iload 4, 2) := by decide +kernel
theorem dX4_givesGood_39 : decode cX4_givesGood 39 = .ok (.iload_n 1, 1) := by decide +kernel
theorem dX4_givesGood_40 : decode cX4_givesGood 40 = .ok (.iload_n 2, 1) := by decide +kernel
theorem dX4_givesGood_41 : decode cX4_givesGood 41 = .ok (.iadd, 1) := by decide +kernel
theorem dX4_givesGood_42 : decode cX4_givesGood 42 = .ok (.iadd, 1) := by decide +kernel
theorem dX4_givesGood_43 : decode cX4_givesGood 43 = .ok (.istore 4, 2) := by decide +kernel
theorem dX4_givesGood_45 : decode cX4_givesGood 45 = .ok (.iinc 5 1, 3) := by decide +kernel
theorem dX4_givesGood_48 : decode cX4_givesGood 48 = .ok (.goto (-32), 3) := by decide +kernel
theorem dX4_givesGood_51 : decode cX4_givesGood 51 = .ok (.iconst 0, 1) := by decide +kernel
theorem dX4_givesGood_52 : decode cX4_givesGood 52 = .ok (.ireturn, 1) := by decide +kernel
theorem dX4_cutOff_0 : decode cX4_cutOff 0 = .ok (.aload_n 0, 1) := by decide +kernel
theorem dX4_cutOff_1 : decode cX4_cutOff 1 = .ok (.aload_n 0, 1) := by decide +kernel
theorem dX4_cutOff_2 : decode cX4_cutOff 2 = .ok (.getfield 22, 3) := by decide +kernel
theorem dX4_cutOff_5 : decode cX4_cutOff 5 = .ok (.aload_n 0, 1) := by decide +kernel
theorem dX4_cutOff_6 : decode cX4_cutOff 6 = .ok (.getfield 22, 3) := by decide +kernel
theorem dX4_cutOff_9 : decode cX4_cutOff 9 = .ok (.iload_n 1, 1) := by decide +kernel
theorem dX4_cutOff_10 : decode cX4_cutOff 10 = .ok (.iadd, 1) := by decide +kernel
theorem dX4_cutOff_11 : decode cX4_cutOff 11 = .ok (.invokevirtual 41, 3) := by decide +kernel
theorem dX4_cutOff_14 : decode cX4_cutOff 14 = .ok (.ifCond .ne 7, 3) := by decide +kernel
theorem dX4_cutOff_17 : decode cX4_cutOff 17 = .ok (.iconst 1, 1) := by decide +kernel
theorem dX4_cutOff_18 : decode cX4_cutOff 18 = .ok (.goto 4, 3) := by decide +kernel
theorem dX4_cutOff_21 : decode cX4_cutOff 21 = .ok (.iconst 0, 1) := by decide +kernel
theorem dX4_cutOff_22 : decode cX4_cutOff 22 = .ok (.istore_n 3, 1) := by decide +kernel
theorem dX4_cutOff_23 : decode cX4_cutOff 23 = .ok (.aload_n 0, 1) := by decide +kernel
theorem dX4_cutOff_24 : decode cX4_cutOff 24 = .ok (.aload_n 0, 1) := by decide +kernel
theorem dX4_cutOff_25 : decode cX4_cutOff 25 = .ok (.getfield 22, 3) := by decide +kernel
theorem dX4_cutOff_28 : decode cX4_cutOff 28 = .ok (.iload_n 1, 1) := by decide +kernel
theorem dX4_cutOff_29 : decode cX4_cutOff 29 = .ok (.iadd, 1) := by decide +kernel
theorem dX4_cutOff_30 : decode cX4_cutOff 30 = .ok (.iload_n 2, 1) := by decide +kernel
theorem dX4_cutOff_31 : decode cX4_cutOff 31 = .ok (.iadd, 1) := by decide +kernel
theorem dX4_cutOff_32 : decode cX4_cutOff 32 = .ok (.aload_n 0, 1) := by decide +kernel
theorem dX4_cutOff_33 : decode cX4_cutOff 33 = .ok (.getfield 15, 3) := by decide +kernel
theorem dX4_cutOff_36 : decode cX4_cutOff 36 = .ok (.invokestatic 45, 3) := by decide +kernel
theorem dX4_cutOff_39 : decode cX4_cutOff 39 = .ok (.putfield 22, 3) := by decide +kernel
theorem dX4_cutOff_42 : decode cX4_cutOff 42 = .ok (.iload_n 3, 1) := by decide +kernel
theorem dX4_cutOff_43 : decode cX4_cutOff 43 = .ok (.ifCond .eq 13, 3) := by decide +kernel
theorem dX4_cutOff_46 : decode cX4_cutOff 46 = .ok (.aload_n 0, 1) := by decide +kernel
theorem dX4_cutOff_47 : decode cX4_cutOff 47 = .ok (.dup, 1) := by decide +kernel
theorem dX4_cutOff_48 : decode cX4_cutOff 48 = .ok (.getfield 28, 3) := by decide +kernel
theorem dX4_cutOff_51 : decode cX4_cutOff 51 = .ok (.iconst 1, 1) := by decide +kernel
theorem dX4_cutOff_52 : decode cX4_cutOff 52 = .ok (.iadd, 1) := by decide +kernel
theorem dX4_cutOff_53 : decode cX4_cutOff 53 = .ok (.putfield 28, 3) := by decide +kernel
theorem dX4_cutOff_56 : decode cX4_cutOff 56 = .ok (.iload_n 3, 1) := by decide +kernel
theorem dX4_cutOff_57 : decode cX4_cutOff 57 = .ok (.ireturn, 1) := by decide +kernel
theorem dX5_init_0 : decode cX5_init 0 = .ok (.aload_n 0, 1) := by decide +kernel
theorem dX5_init_1 : decode cX5_init 1 = .ok (.invokespecial 3, 3) := by decide +kernel
theorem dX5_init_4 : decode cX5_init 4 = .ok (.aload_n 0, 1) := by decide +kernel
theorem dX5_init_5 : decode cX5_init 5 = .ok (.bipush 80, 2) := by decide +kernel
theorem dX5_init_7 : decode cX5_init 7 = .ok (.newarray .char, 2) := by decide +kernel
theorem dX5_init_9 : decode cX5_init 9 = .ok (.putfield 9, 3) := by decide +kernel
theorem dX5_init_12 : decode cX5_init 12 = .ok (.return_, 1) := by decide +kernel
theorem dX5_append_0 : decode cX5_append 0 = .ok (.aload_n 0, 1) := by decide +kernel
theorem dX5_append_1 : decode cX5_append 1 = .ok (.getfield 15, 3) := by decide +kernel
theorem dX5_append_4 : decode cX5_append 4 = .ok (.aload_n 0, 1) := by decide +kernel
theorem dX5_append_5 : decode cX5_append 5 = .ok (.getfield 9, 3) := by decide +kernel
theorem dX5_append_8 : decode cX5_append 8 = .ok (.arraylength, 1) := by decide +kernel
theorem dX5_append_9 : decode cX5_append 9 = .ok (.if_icmp .ge 24, 3) := by decide +kernel
theorem dX5_append_12 : decode cX5_append 12 = .ok (.aload_n 0, 1) := by decide +kernel
theorem dX5_append_13 : decode cX5_append 13 = .ok (.getfield 9, 3) := by decide +kernel
theorem dX5_append_16 : decode cX5_append 16 = .ok (.aload_n 0, 1) := by decide +kernel
theorem dX5_append_17 : decode cX5_append 17 = .ok (.getfield 15, 3) := by decide +kernel
theorem dX5_append_20 : decode cX5_append 20 = .ok (.iload_n 1, 1) := by decide +kernel
theorem dX5_append_21 : decode cX5_append 21 = .ok (.i2c, 1) := by decide +kernel
theorem dX5_append_22 : decode cX5_append 22 = .ok (.castore, 1) := by decide +kernel
theorem dX5_append_23 : decode cX5_append 23 = .ok (.aload_n 0, 1) := by decide +kernel
theorem dX5_append_24 : decode cX5_append 24 = .ok (.dup, 1) := by decide +kernel
theorem dX5_append_25 : decode cX5_append 25 = .ok (.getfield 15, 3) := by decide +kernel
theorem dX5_append_28 : decode cX5_append 28 = .ok (.iconst 1, 1) := by decide +kernel
theorem dX5_append_29 : decode cX5_append 29 = .ok (.iadd, 1) := by decide +kernel
theorem dX5_append_30 : decode cX5_append 30 = .ok (.putfield 15, 3) := by decide +kernel
theorem dX5_append_33 : decode cX5_append 33 = .ok (.return_, 1) := by decide +kernel
theorem dX5_firstFaultOrNone_0 : decode cX5_firstFaultOrNone 0 = .ok (.iconst 0, 1) := by decide +kernel
theorem dX5_firstFaultOrNone_1 : decode cX5_firstFaultOrNone 1 = .ok (.istore_n 1, 1) := by decide +kernel
theorem dX5_firstFaultOrNone_2 : decode cX5_firstFaultOrNone 2 = .ok (.iconst 0, 1) := by decide +kernel
theorem dX5_firstFaultOrNone_3 : decode cX5_firstFaultOrNone 3 = .ok (.istore_n 2, 1) := by decide +kernel
theorem dX5_firstFaultOrNone_4 : decode cX5_firstFaultOrNone 4 = .ok (.iconst 0, 1) := by decide +kernel
theorem dX5_firstFaultOrNone_5 : decode cX5_firstFaultOrNone 5 = .ok (.istore_n 3, 1) := by decide +kernel
theorem dX5_firstFaultOrNone_6 : decode cX5_firstFaultOrNone 6 = .ok (.iload_n 3, 1) := by decide +kernel
theorem dX5_firstFaultOrNone_7 : decode cX5_firstFaultOrNone 7 = .ok (.aload_n 0, 1) := by decide +kernel
theorem dX5_firstFaultOrNone_8 : decode cX5_firstFaultOrNone 8 = .ok (.getfield 15, 3) := by decide +kernel
theorem dX5_firstFaultOrNone_11 : decode cX5_firstFaultOrNone 11 = .ok (.if_icmp .ge 72, 3) := by decide +kernel
theorem dX5_firstFaultOrNone_14 : decode cX5_firstFaultOrNone 14 = .ok (.iload_n 3, 1) := by decide +kernel
theorem dX5_firstFaultOrNone_15 : decode cX5_firstFaultOrNone 15 = .ok (.aload_n 0, 1) := by decide +kernel
theorem dX5_firstFaultOrNone_16 : decode cX5_firstFaultOrNone 16 = .ok (.getfield 9, 3) := by decide +kernel
theorem dX5_firstFaultOrNone_19 : decode cX5_firstFaultOrNone 19 = .ok (.arraylength, 1) := by decide +kernel
theorem dX5_firstFaultOrNone_20 : decode cX5_firstFaultOrNone 20 = .ok (.if_icmp .ge 63, 3) := by decide +kernel
theorem dX5_firstFaultOrNone_23 : decode cX5_firstFaultOrNone 23 = .ok (.aload_n 0, 1) := by decide +kernel
theorem dX5_firstFaultOrNone_24 : decode cX5_firstFaultOrNone 24 = .ok (.getfield 9, 3) := by decide +kernel
theorem dX5_firstFaultOrNone_27 : decode cX5_firstFaultOrNone 27 = .ok (.iload_n 3, 1) := by decide +kernel
theorem dX5_firstFaultOrNone_28 : decode cX5_firstFaultOrNone 28 = .ok (.caload, 1) := by decide +kernel
theorem dX5_firstFaultOrNone_29 : decode cX5_firstFaultOrNone 29 = .ok (.istore 4, 2) := by decide +kernel
theorem dX5_firstFaultOrNone_31 : decode cX5_firstFaultOrNone 31 = .ok (.iload 4, 2) := by decide +kernel
theorem dX5_firstFaultOrNone_33 : decode cX5_firstFaultOrNone 33 = .ok (.invokestatic 19, 3) := by decide +kernel
theorem dX5_firstFaultOrNone_36 : decode cX5_firstFaultOrNone 36 = .ok (.ifCond .eq 14, 3) := by decide +kernel
theorem dX5_firstFaultOrNone_39 : decode cX5_firstFaultOrNone 39 = .ok (.iload_n 1, 1) := by decide +kernel
theorem dX5_firstFaultOrNone_40 : decode cX5_firstFaultOrNone 40 = .ok (.iconst 2, 1) := by decide +kernel
theorem dX5_firstFaultOrNone_41 : decode cX5_firstFaultOrNone 41 = .ok (.if_icmp .ge 9, 3) := by decide +kernel
theorem dX5_firstFaultOrNone_44 : decode cX5_firstFaultOrNone 44 = .ok (.iinc 1 1, 3) := by decide +kernel
theorem dX5_firstFaultOrNone_47 : decode cX5_firstFaultOrNone 47 = .ok (.goto 30, 3) := by decide +kernel
theorem dX5_firstFaultOrNone_50 : decode cX5_firstFaultOrNone 50 = .ok (.iload 4, 2) := by decide +kernel
theorem dX5_firstFaultOrNone_52 : decode cX5_firstFaultOrNone 52 = .ok (.bipush 44, 2) := by decide +kernel
theorem dX5_firstFaultOrNone_54 : decode cX5_firstFaultOrNone 54 = .ok (.if_icmp .ne 21, 3) := by decide +kernel
theorem dX5_firstFaultOrNone_57 : decode cX5_firstFaultOrNone 57 = .ok (.iload_n 1, 1) := by decide +kernel
theorem dX5_firstFaultOrNone_58 : decode cX5_firstFaultOrNone 58 = .ok (.ifCond .le 17, 3) := by decide +kernel
theorem dX5_firstFaultOrNone_61 : decode cX5_firstFaultOrNone 61 = .ok (.iload_n 2, 1) := by decide +kernel
theorem dX5_firstFaultOrNone_62 : decode cX5_firstFaultOrNone 62 = .ok (.bipush 7, 2) := by decide +kernel
theorem dX5_firstFaultOrNone_64 : decode cX5_firstFaultOrNone 64 = .ok (.if_icmp .ge 11, 3) := by decide +kernel
theorem dX5_firstFaultOrNone_67 : decode cX5_firstFaultOrNone 67 = .ok (.iinc 2 1, 3) := by decide +kernel
theorem dX5_firstFaultOrNone_70 : decode cX5_firstFaultOrNone 70 = .ok (.iconst 0, 1) := by decide +kernel
theorem dX5_firstFaultOrNone_71 : decode cX5_firstFaultOrNone 71 = .ok (.istore_n 1, 1) := by decide +kernel
theorem dX5_firstFaultOrNone_72 : decode cX5_firstFaultOrNone 72 = .ok (.goto 5, 3) := by decide +kernel
theorem dX5_firstFaultOrNone_75 : decode cX5_firstFaultOrNone 75 = .ok (.iload_n 3, 1) := by decide +kernel
theorem dX5_firstFaultOrNone_76 : decode cX5_firstFaultOrNone 76 = .ok (.ireturn, 1) := by decide +kernel
theorem dX5_firstFaultOrNone_77 : decode cX5_firstFaultOrNone 77 = .ok (.iinc 3 1, 3) := by decide +kernel
theorem dX5_firstFaultOrNone_80 : decode cX5_firstFaultOrNone 80 = .ok (.goto (-74), 3) := by decide +kernel
theorem dX5_firstFaultOrNone_83 : decode cX5_firstFaultOrNone 83 = .ok (.iload_n 1, 1) := by decide +kernel
theorem dX5_firstFaultOrNone_84 : decode cX5_firstFaultOrNone 84 = .ok (.ifCond .ne 10, 3) := by decide +kernel
theorem dX5_firstFaultOrNone_87 : decode cX5_firstFaultOrNone 87 = .ok (.aload_n 0, 1) := by decide +kernel
theorem dX5_firstFaultOrNone_88 : decode cX5_firstFaultOrNone 88 = .ok (.getfield 15, 3) := by decide +kernel
theorem dX5_firstFaultOrNone_91 : decode cX5_firstFaultOrNone 91 = .ok (.goto 4, 3) := by decide +kernel
theorem dX5_firstFaultOrNone_94 : decode cX5_firstFaultOrNone 94 = .ok (.iconst (-1), 1) := by decide +kernel
theorem dX5_firstFaultOrNone_95 : decode cX5_firstFaultOrNone 95 = .ok (.ireturn, 1) := by decide +kernel
theorem dX5_readShades_0 : decode cX5_readShades 0 = .ok (.iconst 0, 1) := by decide +kernel
theorem dX5_readShades_1 : decode cX5_readShades 1 = .ok (.istore_n 2, 1) := by decide +kernel
theorem dX5_readShades_2 : decode cX5_readShades 2 = .ok (.iconst 0, 1) := by decide +kernel
theorem dX5_readShades_3 : decode cX5_readShades 3 = .ok (.istore_n 3, 1) := by decide +kernel
theorem dX5_readShades_4 : decode cX5_readShades 4 = .ok (.iconst 0, 1) := by decide +kernel
theorem dX5_readShades_5 : decode cX5_readShades 5 = .ok (.istore 4, 2) := by decide +kernel
theorem dX5_readShades_7 : decode cX5_readShades 7 = .ok (.iload 4, 2) := by decide +kernel
theorem dX5_readShades_9 : decode cX5_readShades 9 = .ok (.aload_n 0, 1) := by decide +kernel
theorem dX5_readShades_10 : decode cX5_readShades 10 = .ok (.getfield 15, 3) := by decide +kernel
theorem dX5_readShades_13 : decode cX5_readShades 13 = .ok (.if_icmp .ge 65, 3) := by decide +kernel
theorem dX5_readShades_16 : decode cX5_readShades 16 = .ok (.iload 4, 2) := by decide +kernel
theorem dX5_readShades_18 : decode cX5_readShades 18 = .ok (.aload_n 0, 1) := by decide +kernel
theorem dX5_readShades_19 : decode cX5_readShades 19 = .ok (.getfield 9, 3) := by decide +kernel
theorem dX5_readShades_22 : decode cX5_readShades 22 = .ok (.arraylength, 1) := by decide +kernel
theorem dX5_readShades_23 : decode cX5_readShades 23 = .ok (.if_icmp .ge 55, 3) := by decide +kernel
theorem dX5_readShades_26 : decode cX5_readShades 26 = .ok (.aload_n 0, 1) := by decide +kernel
theorem dX5_readShades_27 : decode cX5_readShades 27 = .ok (.getfield 9, 3) := by decide +kernel
theorem dX5_readShades_30 : decode cX5_readShades 30 = .ok (.iload 4, 2) := by decide +kernel
theorem dX5_readShades_32 : decode cX5_readShades 32 = .ok (.caload, 1) := by decide +kernel
theorem dX5_readShades_33 : decode cX5_readShades 33 = .ok (.bipush 44, 2) := by decide +kernel
theorem dX5_readShades_35 : decode cX5_readShades 35 = .ok (.if_icmp .ne 11, 3) := by decide +kernel
theorem dX5_readShades_38 : decode cX5_readShades 38 = .ok (.iinc 2 1, 3) := by decide +kernel
theorem dX5_readShades_41 : decode cX5_readShades 41 = .ok (.iconst 0, 1) := by decide +kernel
theorem dX5_readShades_42 : decode cX5_readShades 42 = .ok (.istore_n 3, 1) := by decide +kernel
theorem dX5_readShades_43 : decode cX5_readShades 43 = .ok (.goto 19, 3) := by decide +kernel
theorem dX5_readShades_46 : decode cX5_readShades 46 = .ok (.iload_n 3, 1) := by decide +kernel
theorem dX5_readShades_47 : decode cX5_readShades 47 = .ok (.bipush 10, 2) := by decide +kernel
theorem dX5_readShades_49 : decode cX5_readShades 49 = .ok (.imul, 1) := by decide +kernel
theorem dX5_readShades_50 : decode cX5_readShades 50 = .ok (.aload_n 0, 1) := by decide +kernel
theorem dX5_readShades_51 : decode cX5_readShades 51 = .ok (.getfield 9, 3) := by decide +kernel
theorem dX5_readShades_54 : decode cX5_readShades 54 = .ok (.iload 4, 2) := by decide +kernel
theorem dX5_readShades_56 : decode cX5_readShades 56 = .ok (.caload, 1) := by decide +kernel
theorem dX5_readShades_57 : decode cX5_readShades 57 = .ok (.bipush 48, 2) := by decide +kernel
theorem dX5_readShades_59 : decode cX5_readShades 59 = .ok (.isub, 1) := by decide +kernel
theorem dX5_readShades_60 : decode cX5_readShades 60 = .ok (.iadd, 1) := by decide +kernel
theorem dX5_readShades_61 : decode cX5_readShades 61 = .ok (.istore_n 3, 1) := by decide +kernel
theorem dX5_readShades_62 : decode cX5_readShades 62 = .ok (.iload_n 2, 1) := by decide +kernel
theorem dX5_readShades_63 : decode cX5_readShades 63 = .ok (.aload_n 1, 1) := by decide +kernel
theorem dX5_readShades_64 : decode cX5_readShades 64 = .ok (.arraylength, 1) := by decide +kernel
theorem dX5_readShades_65 : decode cX5_readShades 65 = .ok (.if_icmp .ge 7, 3) := by decide +kernel
theorem dX5_readShades_68 : decode cX5_readShades 68 = .ok (.aload_n 1, 1) := by decide +kernel
theorem dX5_readShades_69 : decode cX5_readShades 69 = .ok (.iload_n 2, 1) := by decide +kernel
theorem dX5_readShades_70 : decode cX5_readShades 70 = .ok (.iload_n 3, 1) := by decide +kernel
theorem dX5_readShades_71 : decode cX5_readShades 71 = .ok (.iastore, 1) := by decide +kernel
theorem dX5_readShades_72 : decode cX5_readShades 72 = .ok (.iinc 4 1, 3) := by decide +kernel
theorem dX5_readShades_75 : decode cX5_readShades 75 = .ok (.goto (-68), 3) := by decide +kernel
theorem dX5_readShades_78 : decode cX5_readShades 78 = .ok (.iload_n 2, 1) := by decide +kernel
theorem dX5_readShades_79 : decode cX5_readShades 79 = .ok (.iconst 1, 1) := by decide +kernel
theorem dX5_readShades_80 : decode cX5_readShades 80 = .ok (.iadd, 1) := by decide +kernel
theorem dX5_readShades_81 : decode cX5_readShades 81 = .ok (.aload_n 1, 1) := by decide +kernel
theorem dX5_readShades_82 : decode cX5_readShades 82 = .ok (.arraylength, 1) := by decide +kernel
theorem dX5_readShades_83 : decode cX5_readShades 83 = .ok (.invokestatic 23, 3) := by decide +kernel
theorem dX5_readShades_86 : decode cX5_readShades 86 = .ok (.ireturn, 1) := by decide +kernel
theorem dX5_isDigit_0 : decode cX5_isDigit 0 = .ok (.iload_n 0, 1) := by decide +kernel
theorem dX5_isDigit_1 : decode cX5_isDigit 1 = .ok (.bipush 48, 2) := by decide +kernel
theorem dX5_isDigit_3 : decode cX5_isDigit 3 = .ok (.if_icmp .lt 13, 3) := by decide +kernel
theorem dX5_isDigit_6 : decode cX5_isDigit 6 = .ok (.iload_n 0, 1) := by decide +kernel
theorem dX5_isDigit_7 : decode cX5_isDigit 7 = .ok (.bipush 57, 2) := by decide +kernel
theorem dX5_isDigit_9 : decode cX5_isDigit 9 = .ok (.if_icmp .gt 7, 3) := by decide +kernel
theorem dX5_isDigit_12 : decode cX5_isDigit 12 = .ok (.iconst 1, 1) := by decide +kernel
theorem dX5_isDigit_13 : decode cX5_isDigit 13 = .ok (.goto 4, 3) := by decide +kernel
theorem dX5_isDigit_16 : decode cX5_isDigit 16 = .ok (.iconst 0, 1) := by decide +kernel
theorem dX5_isDigit_17 : decode cX5_isDigit 17 = .ok (.ireturn, 1) := by decide +kernel
theorem dX6_init_0 : decode cX6_init 0 = .ok (.aload_n 0, 1) := by decide +kernel
theorem dX6_init_1 : decode cX6_init 1 = .ok (.invokespecial 1, 3) := by decide +kernel
theorem dX6_init_4 : decode cX6_init 4 = .ok (.aload_n 0, 1) := by decide +kernel
theorem dX6_init_5 : decode cX6_init 5 = .ok (.new 7, 3) := by decide +kernel
theorem dX6_init_8 : decode cX6_init 8 = .ok (.dup, 1) := by decide +kernel
theorem dX6_init_9 : decode cX6_init 9 = .ok (.invokespecial 9, 3) := by decide +kernel
theorem dX6_init_12 : decode cX6_init 12 = .ok (.putfield 10, 3) := by decide +kernel
theorem dX6_init_15 : decode cX6_init 15 = .ok (.aload_n 0, 1) := by decide +kernel
theorem dX6_init_16 : decode cX6_init 16 = .ok (.new 7, 3) := by decide +kernel
theorem dX6_init_19 : decode cX6_init 19 = .ok (.dup, 1) := by decide +kernel
theorem dX6_init_20 : decode cX6_init 20 = .ok (.invokespecial 9, 3) := by decide +kernel
theorem dX6_init_23 : decode cX6_init 23 = .ok (.putfield 16, 3) := by decide +kernel
theorem dX6_init_26 : decode cX6_init 26 = .ok (.aload_n 0, 1) := by decide +kernel
theorem dX6_init_27 : decode cX6_init 27 = .ok (.new 19, 3) := by decide +kernel
theorem dX6_init_30 : decode cX6_init 30 = .ok (.dup, 1) := by decide +kernel
theorem dX6_init_31 : decode cX6_init 31 = .ok (.invokespecial 21, 3) := by decide +kernel
theorem dX6_init_34 : decode cX6_init 34 = .ok (.putfield 22, 3) := by decide +kernel
theorem dX6_init_37 : decode cX6_init 37 = .ok (.aload_n 0, 1) := by decide +kernel
theorem dX6_init_38 : decode cX6_init 38 = .ok (.new 26, 3) := by decide +kernel
theorem dX6_init_41 : decode cX6_init 41 = .ok (.dup, 1) := by decide +kernel
theorem dX6_init_42 : decode cX6_init 42 = .ok (.invokespecial 28, 3) := by decide +kernel
theorem dX6_init_45 : decode cX6_init 45 = .ok (.putfield 29, 3) := by decide +kernel
theorem dX6_init_48 : decode cX6_init 48 = .ok (.return_, 1) := by decide +kernel
theorem dX6_floor_0 : decode cX6_floor 0 = .ok (.iload_n 1, 1) := by decide +kernel
theorem dX6_floor_1 : decode cX6_floor 1 = .ok (.iconst 3, 1) := by decide +kernel
theorem dX6_floor_2 : decode cX6_floor 2 = .ok (.bipush 12, 2) := by decide +kernel
theorem dX6_floor_4 : decode cX6_floor 4 = .ok (.invokestatic 33, 3) := by decide +kernel
theorem dX6_floor_7 : decode cX6_floor 7 = .ok (.ifCond .eq 13, 3) := by decide +kernel
theorem dX6_floor_10 : decode cX6_floor 10 = .ok (.iload_n 2, 1) := by decide +kernel
theorem dX6_floor_11 : decode cX6_floor 11 = .ok (.iconst 3, 1) := by decide +kernel
theorem dX6_floor_12 : decode cX6_floor 12 = .ok (.bipush 12, 2) := by decide +kernel
theorem dX6_floor_14 : decode cX6_floor 14 = .ok (.invokestatic 33, 3) := by decide +kernel
theorem dX6_floor_17 : decode cX6_floor 17 = .ok (.ifCond .ne 5, 3) := by decide +kernel
theorem dX6_floor_20 : decode cX6_floor 20 = .ok (.iconst (-1), 1) := by decide +kernel
theorem dX6_floor_21 : decode cX6_floor 21 = .ok (.ireturn, 1) := by decide +kernel
theorem dX6_floor_22 : decode cX6_floor 22 = .ok (.aload_n 0, 1) := by decide +kernel
theorem dX6_floor_23 : decode cX6_floor 23 = .ok (.getfield 10, 3) := by decide +kernel
theorem dX6_floor_26 : decode cX6_floor 26 = .ok (.invokevirtual 37, 3) := by decide +kernel
theorem dX6_floor_29 : decode cX6_floor 29 = .ok (.ifCond .le 6, 3) := by decide +kernel
theorem dX6_floor_32 : decode cX6_floor 32 = .ok (.bipush (-2), 2) := by decide +kernel
theorem dX6_floor_34 : decode cX6_floor 34 = .ok (.ireturn, 1) := by decide +kernel
theorem dX6_floor_35 : decode cX6_floor 35 = .ok (.aload_n 0, 1) := by decide +kernel
theorem dX6_floor_36 : decode cX6_floor 36 = .ok (.getfield 22, 3) := by decide +kernel
theorem dX6_floor_39 : decode cX6_floor 39 = .ok (.aload_n 0, 1) := by decide +kernel
theorem dX6_floor_40 : decode cX6_floor 40 = .ok (.getfield 10, 3) := by decide +kernel
theorem dX6_floor_43 : decode cX6_floor 43 = .ok (.invokevirtual 41, 3) := by decide +kernel
theorem dX6_floor_46 : decode cX6_floor 46 = .ok (.aload_n 0, 1) := by decide +kernel
theorem dX6_floor_47 : decode cX6_floor 47 = .ok (.getfield 10, 3) := by decide +kernel
theorem dX6_floor_50 : decode cX6_floor 50 = .ok (.getfield 45, 3) := by decide +kernel
theorem dX6_floor_53 : decode cX6_floor 53 = .ok (.iload_n 1, 1) := by decide +kernel
theorem dX6_floor_54 : decode cX6_floor 54 = .ok (.iload_n 2, 1) := by decide +kernel
theorem dX6_floor_55 : decode cX6_floor 55 = .ok (.invokevirtual 49, 3) := by decide +kernel
theorem dX6_floor_58 : decode cX6_floor 58 = .ok (.iload_n 1, 1) := by decide +kernel
theorem dX6_floor_59 : decode cX6_floor 59 = .ok (.iload_n 2, 1) := by decide +kernel
theorem dX6_floor_60 : decode cX6_floor 60 = .ok (.imul, 1) := by decide +kernel
theorem dX6_floor_61 : decode cX6_floor 61 = .ok (.ireturn, 1) := by decide +kernel
theorem dX6_set_0 : decode cX6_set 0 = .ok (.iload_n 1, 1) := by decide +kernel
theorem dX6_set_1 : decode cX6_set 1 = .ok (.lookupswitch 39 #[(0, 27), (1, 33)], 27) := by decide +kernel
theorem dX6_set_28 : decode cX6_set 28 = .ok (.aload_n 0, 1) := by decide +kernel
theorem dX6_set_29 : decode cX6_set 29 = .ok (.iload_n 2, 1) := by decide +kernel
theorem dX6_set_30 : decode cX6_set 30 = .ok (.invokevirtual 55, 3) := by decide +kernel
theorem dX6_set_33 : decode cX6_set 33 = .ok (.ireturn, 1) := by decide +kernel
theorem dX6_set_34 : decode cX6_set 34 = .ok (.aload_n 0, 1) := by decide +kernel
theorem dX6_set_35 : decode cX6_set 35 = .ok (.iload_n 2, 1) := by decide +kernel
theorem dX6_set_36 : decode cX6_set 36 = .ok (.invokevirtual 59, 3) := by decide +kernel
theorem dX6_set_39 : decode cX6_set 39 = .ok (.ireturn, 1) := by decide +kernel
theorem dX6_set_40 : decode cX6_set 40 = .ok (.iconst (-1), 1) := by decide +kernel
theorem dX6_set_41 : decode cX6_set 41 = .ok (.ireturn, 1) := by decide +kernel
theorem dX6_pattern_0 : decode cX6_pattern 0 = .ok (.aload_n 0, 1) := by decide +kernel
theorem dX6_pattern_1 : decode cX6_pattern 1 = .ok (.getfield 29, 3) := by decide +kernel
theorem dX6_pattern_4 : decode cX6_pattern 4 = .ok (.invokevirtual 62, 3) := by decide +kernel
theorem dX6_pattern_7 : decode cX6_pattern 7 = .ok (.iconst (-1), 1) := by decide +kernel
theorem dX6_pattern_8 : decode cX6_pattern 8 = .ok (.if_icmp .ne 13, 3) := by decide +kernel
theorem dX6_pattern_11 : decode cX6_pattern 11 = .ok (.aload_n 0, 1) := by decide +kernel
theorem dX6_pattern_12 : decode cX6_pattern 12 = .ok (.getfield 10, 3) := by decide +kernel
theorem dX6_pattern_15 : decode cX6_pattern 15 = .ok (.invokevirtual 37, 3) := by decide +kernel
theorem dX6_pattern_18 : decode cX6_pattern 18 = .ok (.ifCond .le 6, 3) := by decide +kernel
theorem dX6_pattern_21 : decode cX6_pattern 21 = .ok (.bipush (-2), 2) := by decide +kernel
theorem dX6_pattern_23 : decode cX6_pattern 23 = .ok (.ireturn, 1) := by decide +kernel
theorem dX6_pattern_24 : decode cX6_pattern 24 = .ok (.aload_n 0, 1) := by decide +kernel
theorem dX6_pattern_25 : decode cX6_pattern 25 = .ok (.getfield 22, 3) := by decide +kernel
theorem dX6_pattern_28 : decode cX6_pattern 28 = .ok (.aload_n 0, 1) := by decide +kernel
theorem dX6_pattern_29 : decode cX6_pattern 29 = .ok (.getfield 10, 3) := by decide +kernel
theorem dX6_pattern_32 : decode cX6_pattern 32 = .ok (.invokevirtual 41, 3) := by decide +kernel
theorem dX6_pattern_35 : decode cX6_pattern 35 = .ok (.aload_n 0, 1) := by decide +kernel
theorem dX6_pattern_36 : decode cX6_pattern 36 = .ok (.getfield 10, 3) := by decide +kernel
theorem dX6_pattern_39 : decode cX6_pattern 39 = .ok (.getfield 45, 3) := by decide +kernel
theorem dX6_pattern_42 : decode cX6_pattern 42 = .ok (.aload_n 0, 1) := by decide +kernel
theorem dX6_pattern_43 : decode cX6_pattern 43 = .ok (.getfield 29, 3) := by decide +kernel
theorem dX6_pattern_46 : decode cX6_pattern 46 = .ok (.invokevirtual 65, 3) := by decide +kernel
theorem dX6_pattern_49 : decode cX6_pattern 49 = .ok (.ireturn, 1) := by decide +kernel
theorem dX6_way_0 : decode cX6_way 0 = .ok (.iload_n 1, 1) := by decide +kernel
theorem dX6_way_1 : decode cX6_way 1 = .ok (.iconst 0, 1) := by decide +kernel
theorem dX6_way_2 : decode cX6_way 2 = .ok (.iconst 2, 1) := by decide +kernel
theorem dX6_way_3 : decode cX6_way 3 = .ok (.invokestatic 33, 3) := by decide +kernel
theorem dX6_way_6 : decode cX6_way 6 = .ok (.ifCond .ne 5, 3) := by decide +kernel
theorem dX6_way_9 : decode cX6_way 9 = .ok (.iconst (-1), 1) := by decide +kernel
theorem dX6_way_10 : decode cX6_way 10 = .ok (.ireturn, 1) := by decide +kernel
theorem dX6_way_11 : decode cX6_way 11 = .ok (.aload_n 0, 1) := by decide +kernel
theorem dX6_way_12 : decode cX6_way 12 = .ok (.getfield 10, 3) := by decide +kernel
theorem dX6_way_15 : decode cX6_way 15 = .ok (.invokevirtual 37, 3) := by decide +kernel
theorem dX6_way_18 : decode cX6_way 18 = .ok (.ifCond .le 6, 3) := by decide +kernel
theorem dX6_way_21 : decode cX6_way 21 = .ok (.bipush (-2), 2) := by decide +kernel
theorem dX6_way_23 : decode cX6_way 23 = .ok (.ireturn, 1) := by decide +kernel
theorem dX6_way_24 : decode cX6_way 24 = .ok (.aload_n 0, 1) := by decide +kernel
theorem dX6_way_25 : decode cX6_way 25 = .ok (.getfield 22, 3) := by decide +kernel
theorem dX6_way_28 : decode cX6_way 28 = .ok (.aload_n 0, 1) := by decide +kernel
theorem dX6_way_29 : decode cX6_way 29 = .ok (.getfield 10, 3) := by decide +kernel
theorem dX6_way_32 : decode cX6_way 32 = .ok (.invokevirtual 41, 3) := by decide +kernel
theorem dX6_way_35 : decode cX6_way 35 = .ok (.aload_n 0, 1) := by decide +kernel
theorem dX6_way_36 : decode cX6_way 36 = .ok (.getfield 10, 3) := by decide +kernel
theorem dX6_way_39 : decode cX6_way 39 = .ok (.getfield 45, 3) := by decide +kernel
theorem dX6_way_42 : decode cX6_way 42 = .ok (.getfield 69, 3) := by decide +kernel
theorem dX6_way_45 : decode cX6_way 45 = .ok (.istore_n 2, 1) := by decide +kernel
theorem dX6_way_46 : decode cX6_way 46 = .ok (.aload_n 0, 1) := by decide +kernel
theorem dX6_way_47 : decode cX6_way 47 = .ok (.getfield 10, 3) := by decide +kernel
theorem dX6_way_50 : decode cX6_way 50 = .ok (.getfield 45, 3) := by decide +kernel
theorem dX6_way_53 : decode cX6_way 53 = .ok (.iload_n 1, 1) := by decide +kernel
theorem dX6_way_54 : decode cX6_way 54 = .ok (.putfield 69, 3) := by decide +kernel
theorem dX6_way_57 : decode cX6_way 57 = .ok (.iload_n 2, 1) := by decide +kernel
theorem dX6_way_58 : decode cX6_way 58 = .ok (.ireturn, 1) := by decide +kernel
theorem dX6_want_0 : decode cX6_want 0 = .ok (.aload_n 0, 1) := by decide +kernel
theorem dX6_want_1 : decode cX6_want 1 = .ok (.getfield 10, 3) := by decide +kernel
theorem dX6_want_4 : decode cX6_want 4 = .ok (.getfield 45, 3) := by decide +kernel
theorem dX6_want_7 : decode cX6_want 7 = .ok (.iload_n 1, 1) := by decide +kernel
theorem dX6_want_8 : decode cX6_want 8 = .ok (.iload_n 2, 1) := by decide +kernel
theorem dX6_want_9 : decode cX6_want 9 = .ok (.invokevirtual 73, 3) := by decide +kernel
theorem dX6_want_12 : decode cX6_want 12 = .ok (.ifCond .eq 10, 3) := by decide +kernel
theorem dX6_want_15 : decode cX6_want 15 = .ok (.iload_n 3, 1) := by decide +kernel
theorem dX6_want_16 : decode cX6_want 16 = .ok (.invokestatic 77, 3) := by decide +kernel
theorem dX6_want_19 : decode cX6_want 19 = .ok (.ifCond .ne 5, 3) := by decide +kernel
theorem dX6_want_22 : decode cX6_want 22 = .ok (.iconst (-1), 1) := by decide +kernel
theorem dX6_want_23 : decode cX6_want 23 = .ok (.ireturn, 1) := by decide +kernel
theorem dX6_want_24 : decode cX6_want 24 = .ok (.aload_n 0, 1) := by decide +kernel
theorem dX6_want_25 : decode cX6_want 25 = .ok (.getfield 10, 3) := by decide +kernel
theorem dX6_want_28 : decode cX6_want 28 = .ok (.getfield 45, 3) := by decide +kernel
theorem dX6_want_31 : decode cX6_want 31 = .ok (.iload_n 1, 1) := by decide +kernel
theorem dX6_want_32 : decode cX6_want 32 = .ok (.iload_n 2, 1) := by decide +kernel
theorem dX6_want_33 : decode cX6_want 33 = .ok (.invokevirtual 81, 3) := by decide +kernel
theorem dX6_want_36 : decode cX6_want 36 = .ok (.ifCond .ne 15, 3) := by decide +kernel
theorem dX6_want_39 : decode cX6_want 39 = .ok (.aload_n 0, 1) := by decide +kernel
theorem dX6_want_40 : decode cX6_want 40 = .ok (.getfield 10, 3) := by decide +kernel
theorem dX6_want_43 : decode cX6_want 43 = .ok (.iload_n 1, 1) := by decide +kernel
theorem dX6_want_44 : decode cX6_want 44 = .ok (.iload_n 2, 1) := by decide +kernel
theorem dX6_want_45 : decode cX6_want 45 = .ok (.invokevirtual 84, 3) := by decide +kernel
theorem dX6_want_48 : decode cX6_want 48 = .ok (.ifCond .eq 6, 3) := by decide +kernel
theorem dX6_want_51 : decode cX6_want 51 = .ok (.bipush (-2), 2) := by decide +kernel
theorem dX6_want_53 : decode cX6_want 53 = .ok (.ireturn, 1) := by decide +kernel
theorem dX6_want_54 : decode cX6_want 54 = .ok (.aload_n 0, 1) := by decide +kernel
theorem dX6_want_55 : decode cX6_want 55 = .ok (.getfield 22, 3) := by decide +kernel
theorem dX6_want_58 : decode cX6_want 58 = .ok (.aload_n 0, 1) := by decide +kernel
theorem dX6_want_59 : decode cX6_want 59 = .ok (.getfield 10, 3) := by decide +kernel
theorem dX6_want_62 : decode cX6_want 62 = .ok (.invokevirtual 41, 3) := by decide +kernel
theorem dX6_want_65 : decode cX6_want 65 = .ok (.aload_n 0, 1) := by decide +kernel
theorem dX6_want_66 : decode cX6_want 66 = .ok (.getfield 10, 3) := by decide +kernel
theorem dX6_want_69 : decode cX6_want 69 = .ok (.getfield 45, 3) := by decide +kernel
theorem dX6_want_72 : decode cX6_want 72 = .ok (.iload_n 1, 1) := by decide +kernel
theorem dX6_want_73 : decode cX6_want 73 = .ok (.iload_n 2, 1) := by decide +kernel
theorem dX6_want_74 : decode cX6_want 74 = .ok (.invokevirtual 87, 3) := by decide +kernel
theorem dX6_want_77 : decode cX6_want 77 = .ok (.istore 4, 2) := by decide +kernel
theorem dX6_want_79 : decode cX6_want 79 = .ok (.aload_n 0, 1) := by decide +kernel
theorem dX6_want_80 : decode cX6_want 80 = .ok (.getfield 10, 3) := by decide +kernel
theorem dX6_want_83 : decode cX6_want 83 = .ok (.getfield 45, 3) := by decide +kernel
theorem dX6_want_86 : decode cX6_want 86 = .ok (.iload_n 1, 1) := by decide +kernel
theorem dX6_want_87 : decode cX6_want 87 = .ok (.iload_n 2, 1) := by decide +kernel
theorem dX6_want_88 : decode cX6_want 88 = .ok (.iload_n 3, 1) := by decide +kernel
theorem dX6_want_89 : decode cX6_want 89 = .ok (.invokevirtual 91, 3) := by decide +kernel
theorem dX6_want_92 : decode cX6_want 92 = .ok (.iload 4, 2) := by decide +kernel
theorem dX6_want_94 : decode cX6_want 94 = .ok (.ireturn, 1) := by decide +kernel
theorem dX6_cell_0 : decode cX6_cell 0 = .ok (.aload_n 0, 1) := by decide +kernel
theorem dX6_cell_1 : decode cX6_cell 1 = .ok (.getfield 10, 3) := by decide +kernel
theorem dX6_cell_4 : decode cX6_cell 4 = .ok (.getfield 45, 3) := by decide +kernel
theorem dX6_cell_7 : decode cX6_cell 7 = .ok (.iload_n 1, 1) := by decide +kernel
theorem dX6_cell_8 : decode cX6_cell 8 = .ok (.iload_n 2, 1) := by decide +kernel
theorem dX6_cell_9 : decode cX6_cell 9 = .ok (.invokevirtual 73, 3) := by decide +kernel
theorem dX6_cell_12 : decode cX6_cell 12 = .ok (.ifCond .ne 5, 3) := by decide +kernel
theorem dX6_cell_15 : decode cX6_cell 15 = .ok (.iconst (-1), 1) := by decide +kernel
theorem dX6_cell_16 : decode cX6_cell 16 = .ok (.ireturn, 1) := by decide +kernel
theorem dX6_cell_17 : decode cX6_cell 17 = .ok (.iload_n 3, 1) := by decide +kernel
theorem dX6_cell_18 : decode cX6_cell 18 = .ok (.tableswitch 130 0 3 #[30, 43, 70, 97], 30) := by decide +kernel
theorem dX6_cell_48 : decode cX6_cell 48 = .ok (.aload_n 0, 1) := by decide +kernel
theorem dX6_cell_49 : decode cX6_cell 49 = .ok (.getfield 10, 3) := by decide +kernel
theorem dX6_cell_52 : decode cX6_cell 52 = .ok (.getfield 45, 3) := by decide +kernel
theorem dX6_cell_55 : decode cX6_cell 55 = .ok (.iload_n 1, 1) := by decide +kernel
theorem dX6_cell_56 : decode cX6_cell 56 = .ok (.iload_n 2, 1) := by decide +kernel
theorem dX6_cell_57 : decode cX6_cell 57 = .ok (.invokevirtual 87, 3) := by decide +kernel
theorem dX6_cell_60 : decode cX6_cell 60 = .ok (.ireturn, 1) := by decide +kernel
theorem dX6_cell_61 : decode cX6_cell 61 = .ok (.aload_n 0, 1) := by decide +kernel
theorem dX6_cell_62 : decode cX6_cell 62 = .ok (.getfield 10, 3) := by decide +kernel
theorem dX6_cell_65 : decode cX6_cell 65 = .ok (.iload_n 1, 1) := by decide +kernel
theorem dX6_cell_66 : decode cX6_cell 66 = .ok (.iload_n 2, 1) := by decide +kernel
theorem dX6_cell_67 : decode cX6_cell 67 = .ok (.invokevirtual 84, 3) := by decide +kernel
theorem dX6_cell_70 : decode cX6_cell 70 = .ok (.ifCond .eq 15, 3) := by decide +kernel
theorem dX6_cell_73 : decode cX6_cell 73 = .ok (.aload_n 0, 1) := by decide +kernel
theorem dX6_cell_74 : decode cX6_cell 74 = .ok (.getfield 10, 3) := by decide +kernel
theorem dX6_cell_77 : decode cX6_cell 77 = .ok (.iload_n 1, 1) := by decide +kernel
theorem dX6_cell_78 : decode cX6_cell 78 = .ok (.iload_n 2, 1) := by decide +kernel
theorem dX6_cell_79 : decode cX6_cell 79 = .ok (.invokevirtual 95, 3) := by decide +kernel
theorem dX6_cell_82 : decode cX6_cell 82 = .ok (.goto 5, 3) := by decide +kernel
theorem dX6_cell_85 : decode cX6_cell 85 = .ok (.bipush (-4), 2) := by decide +kernel
theorem dX6_cell_87 : decode cX6_cell 87 = .ok (.ireturn, 1) := by decide +kernel
theorem dX6_cell_88 : decode cX6_cell 88 = .ok (.aload_n 0, 1) := by decide +kernel
theorem dX6_cell_89 : decode cX6_cell 89 = .ok (.getfield 10, 3) := by decide +kernel
theorem dX6_cell_92 : decode cX6_cell 92 = .ok (.iload_n 1, 1) := by decide +kernel
theorem dX6_cell_93 : decode cX6_cell 93 = .ok (.iload_n 2, 1) := by decide +kernel
theorem dX6_cell_94 : decode cX6_cell 94 = .ok (.invokevirtual 84, 3) := by decide +kernel
theorem dX6_cell_97 : decode cX6_cell 97 = .ok (.ifCond .eq 15, 3) := by decide +kernel
theorem dX6_cell_100 : decode cX6_cell 100 = .ok (.aload_n 0, 1) := by decide +kernel
theorem dX6_cell_101 : decode cX6_cell 101 = .ok (.getfield 10, 3) := by decide +kernel
theorem dX6_cell_104 : decode cX6_cell 104 = .ok (.iload_n 1, 1) := by decide +kernel
theorem dX6_cell_105 : decode cX6_cell 105 = .ok (.iload_n 2, 1) := by decide +kernel
theorem dX6_cell_106 : decode cX6_cell 106 = .ok (.invokevirtual 98, 3) := by decide +kernel
theorem dX6_cell_109 : decode cX6_cell 109 = .ok (.goto 5, 3) := by decide +kernel
theorem dX6_cell_112 : decode cX6_cell 112 = .ok (.bipush (-4), 2) := by decide +kernel
theorem dX6_cell_114 : decode cX6_cell 114 = .ok (.ireturn, 1) := by decide +kernel
theorem dX6_cell_115 : decode cX6_cell 115 = .ok (.aload_n 0, 1) := by decide +kernel
theorem dX6_cell_116 : decode cX6_cell 116 = .ok (.getfield 10, 3) := by decide +kernel
theorem dX6_cell_119 : decode cX6_cell 119 = .ok (.getfield 45, 3) := by decide +kernel
theorem dX6_cell_122 : decode cX6_cell 122 = .ok (.iload_n 1, 1) := by decide +kernel
theorem dX6_cell_123 : decode cX6_cell 123 = .ok (.iload_n 2, 1) := by decide +kernel
theorem dX6_cell_124 : decode cX6_cell 124 = .ok (.invokevirtual 81, 3) := by decide +kernel
theorem dX6_cell_127 : decode cX6_cell 127 = .ok (.ifCond .eq 18, 3) := by decide +kernel
theorem dX6_cell_130 : decode cX6_cell 130 = .ok (.aload_n 0, 1) := by decide +kernel
theorem dX6_cell_131 : decode cX6_cell 131 = .ok (.getfield 10, 3) := by decide +kernel
theorem dX6_cell_134 : decode cX6_cell 134 = .ok (.getfield 45, 3) := by decide +kernel
theorem dX6_cell_137 : decode cX6_cell 137 = .ok (.iload_n 1, 1) := by decide +kernel
theorem dX6_cell_138 : decode cX6_cell 138 = .ok (.iload_n 2, 1) := by decide +kernel
theorem dX6_cell_139 : decode cX6_cell 139 = .ok (.invokevirtual 101, 3) := by decide +kernel
theorem dX6_cell_142 : decode cX6_cell 142 = .ok (.goto 5, 3) := by decide +kernel
theorem dX6_cell_145 : decode cX6_cell 145 = .ok (.bipush (-4), 2) := by decide +kernel
theorem dX6_cell_147 : decode cX6_cell 147 = .ok (.ireturn, 1) := by decide +kernel
theorem dX6_cell_148 : decode cX6_cell 148 = .ok (.iconst (-1), 1) := by decide +kernel
theorem dX6_cell_149 : decode cX6_cell 149 = .ok (.ireturn, 1) := by decide +kernel
theorem dX6_count_0 : decode cX6_count 0 = .ok (.iload_n 1, 1) := by decide +kernel
theorem dX6_count_1 : decode cX6_count 1 = .ok (.iconst 0, 1) := by decide +kernel
theorem dX6_count_2 : decode cX6_count 2 = .ok (.iconst 5, 1) := by decide +kernel
theorem dX6_count_3 : decode cX6_count 3 = .ok (.invokestatic 33, 3) := by decide +kernel
theorem dX6_count_6 : decode cX6_count 6 = .ok (.ifCond .eq 9, 3) := by decide +kernel
theorem dX6_count_9 : decode cX6_count 9 = .ok (.aload_n 0, 1) := by decide +kernel
theorem dX6_count_10 : decode cX6_count 10 = .ok (.iload_n 1, 1) := by decide +kernel
theorem dX6_count_11 : decode cX6_count 11 = .ok (.invokevirtual 104, 3) := by decide +kernel
theorem dX6_count_14 : decode cX6_count 14 = .ok (.ireturn, 1) := by decide +kernel
theorem dX6_count_15 : decode cX6_count 15 = .ok (.iload_n 1, 1) := by decide +kernel
theorem dX6_count_16 : decode cX6_count 16 = .ok (.bipush 6, 2) := by decide +kernel
theorem dX6_count_18 : decode cX6_count 18 = .ok (.bipush 16, 2) := by decide +kernel
theorem dX6_count_20 : decode cX6_count 20 = .ok (.invokestatic 33, 3) := by decide +kernel
theorem dX6_count_23 : decode cX6_count 23 = .ok (.ifCond .eq 9, 3) := by decide +kernel
theorem dX6_count_26 : decode cX6_count 26 = .ok (.aload_n 0, 1) := by decide +kernel
theorem dX6_count_27 : decode cX6_count 27 = .ok (.iload_n 1, 1) := by decide +kernel
theorem dX6_count_28 : decode cX6_count 28 = .ok (.invokevirtual 107, 3) := by decide +kernel
theorem dX6_count_31 : decode cX6_count 31 = .ok (.ireturn, 1) := by decide +kernel
theorem dX6_count_32 : decode cX6_count 32 = .ok (.iload_n 1, 1) := by decide +kernel
theorem dX6_count_33 : decode cX6_count 33 = .ok (.bipush 20, 2) := by decide +kernel
theorem dX6_count_35 : decode cX6_count 35 = .ok (.bipush 26, 2) := by decide +kernel
theorem dX6_count_37 : decode cX6_count 37 = .ok (.invokestatic 33, 3) := by decide +kernel
theorem dX6_count_40 : decode cX6_count 40 = .ok (.ifCond .eq 12, 3) := by decide +kernel
theorem dX6_count_43 : decode cX6_count 43 = .ok (.aload_n 0, 1) := by decide +kernel
theorem dX6_count_44 : decode cX6_count 44 = .ok (.iload_n 1, 1) := by decide +kernel
theorem dX6_count_45 : decode cX6_count 45 = .ok (.bipush 20, 2) := by decide +kernel
theorem dX6_count_47 : decode cX6_count 47 = .ok (.isub, 1) := by decide +kernel
theorem dX6_count_48 : decode cX6_count 48 = .ok (.invokevirtual 110, 3) := by decide +kernel
theorem dX6_count_51 : decode cX6_count 51 = .ok (.ireturn, 1) := by decide +kernel
theorem dX6_count_52 : decode cX6_count 52 = .ok (.iconst (-1), 1) := by decide +kernel
theorem dX6_count_53 : decode cX6_count 53 = .ok (.ireturn, 1) := by decide +kernel
theorem dX6_shade_0 : decode cX6_shade 0 = .ok (.iload_n 1, 1) := by decide +kernel
theorem dX6_shade_1 : decode cX6_shade 1 = .ok (.ifCond .ge 5, 3) := by decide +kernel
theorem dX6_shade_4 : decode cX6_shade 4 = .ok (.iconst (-1), 1) := by decide +kernel
theorem dX6_shade_5 : decode cX6_shade 5 = .ok (.ireturn, 1) := by decide +kernel
theorem dX6_shade_6 : decode cX6_shade 6 = .ok (.iload_n 1, 1) := by decide +kernel
theorem dX6_shade_7 : decode cX6_shade 7 = .ok (.aload_n 0, 1) := by decide +kernel
theorem dX6_shade_8 : decode cX6_shade 8 = .ok (.getfield 10, 3) := by decide +kernel
theorem dX6_shade_11 : decode cX6_shade 11 = .ok (.getfield 45, 3) := by decide +kernel
theorem dX6_shade_14 : decode cX6_shade 14 = .ok (.getfield 113, 3) := by decide +kernel
theorem dX6_shade_17 : decode cX6_shade 17 = .ok (.if_icmp .ge 17, 3) := by decide +kernel
theorem dX6_shade_20 : decode cX6_shade 20 = .ok (.aload_n 0, 1) := by decide +kernel
theorem dX6_shade_21 : decode cX6_shade 21 = .ok (.getfield 10, 3) := by decide +kernel
theorem dX6_shade_24 : decode cX6_shade 24 = .ok (.getfield 45, 3) := by decide +kernel
theorem dX6_shade_27 : decode cX6_shade 27 = .ok (.iload_n 1, 1) := by decide +kernel
theorem dX6_shade_28 : decode cX6_shade 28 = .ok (.invokevirtual 116, 3) := by decide +kernel
theorem dX6_shade_31 : decode cX6_shade 31 = .ok (.goto 5, 3) := by decide +kernel
theorem dX6_shade_34 : decode cX6_shade 34 = .ok (.bipush (-4), 2) := by decide +kernel
theorem dX6_shade_36 : decode cX6_shade 36 = .ok (.ireturn, 1) := by decide +kernel
theorem dX6_undo_0 : decode cX6_undo 0 = .ok (.aload_n 0, 1) := by decide +kernel
theorem dX6_undo_1 : decode cX6_undo 1 = .ok (.getfield 22, 3) := by decide +kernel
theorem dX6_undo_4 : decode cX6_undo 4 = .ok (.invokevirtual 119, 3) := by decide +kernel
theorem dX6_undo_7 : decode cX6_undo 7 = .ok (.ifCond .ne 6, 3) := by decide +kernel
theorem dX6_undo_10 : decode cX6_undo 10 = .ok (.bipush (-2), 2) := by decide +kernel
theorem dX6_undo_12 : decode cX6_undo 12 = .ok (.ireturn, 1) := by decide +kernel
theorem dX6_undo_13 : decode cX6_undo 13 = .ok (.aload_n 0, 1) := by decide +kernel
theorem dX6_undo_14 : decode cX6_undo 14 = .ok (.getfield 22, 3) := by decide +kernel
theorem dX6_undo_17 : decode cX6_undo 17 = .ok (.aload_n 0, 1) := by decide +kernel
theorem dX6_undo_18 : decode cX6_undo 18 = .ok (.getfield 10, 3) := by decide +kernel
theorem dX6_undo_21 : decode cX6_undo 21 = .ok (.invokevirtual 122, 3) := by decide +kernel
theorem dX6_undo_24 : decode cX6_undo 24 = .ok (.aload_n 0, 1) := by decide +kernel
theorem dX6_undo_25 : decode cX6_undo 25 = .ok (.getfield 22, 3) := by decide +kernel
theorem dX6_undo_28 : decode cX6_undo 28 = .ok (.invokevirtual 119, 3) := by decide +kernel
theorem dX6_undo_31 : decode cX6_undo 31 = .ok (.ireturn, 1) := by decide +kernel
theorem dX6_strip_0 : decode cX6_strip 0 = .ok (.iload_n 1, 1) := by decide +kernel
theorem dX6_strip_1 : decode cX6_strip 1 = .ok (.bipush 20, 2) := by decide +kernel
theorem dX6_strip_3 : decode cX6_strip 3 = .ok (.sipush 1000, 3) := by decide +kernel
theorem dX6_strip_6 : decode cX6_strip 6 = .ok (.invokestatic 33, 3) := by decide +kernel
theorem dX6_strip_9 : decode cX6_strip 9 = .ok (.ifCond .eq 10, 3) := by decide +kernel
theorem dX6_strip_12 : decode cX6_strip 12 = .ok (.iload_n 2, 1) := by decide +kernel
theorem dX6_strip_13 : decode cX6_strip 13 = .ok (.invokestatic 77, 3) := by decide +kernel
theorem dX6_strip_16 : decode cX6_strip 16 = .ok (.ifCond .ne 5, 3) := by decide +kernel
theorem dX6_strip_19 : decode cX6_strip 19 = .ok (.iconst (-1), 1) := by decide +kernel
theorem dX6_strip_20 : decode cX6_strip 20 = .ok (.ireturn, 1) := by decide +kernel
theorem dX6_strip_21 : decode cX6_strip 21 = .ok (.aload_n 0, 1) := by decide +kernel
theorem dX6_strip_22 : decode cX6_strip 22 = .ok (.getfield 10, 3) := by decide +kernel
theorem dX6_strip_25 : decode cX6_strip 25 = .ok (.getfield 125, 3) := by decide +kernel
theorem dX6_strip_28 : decode cX6_strip 28 = .ok (.getfield 129, 3) := by decide +kernel
theorem dX6_strip_31 : decode cX6_strip 31 = .ok (.bipush 10, 2) := by decide +kernel
theorem dX6_strip_33 : decode cX6_strip 33 = .ok (.if_icmp .lt 6, 3) := by decide +kernel
theorem dX6_strip_36 : decode cX6_strip 36 = .ok (.bipush (-3), 2) := by decide +kernel
theorem dX6_strip_38 : decode cX6_strip 38 = .ok (.ireturn, 1) := by decide +kernel
theorem dX6_strip_39 : decode cX6_strip 39 = .ok (.aload_n 0, 1) := by decide +kernel
theorem dX6_strip_40 : decode cX6_strip 40 = .ok (.getfield 22, 3) := by decide +kernel
theorem dX6_strip_43 : decode cX6_strip 43 = .ok (.aload_n 0, 1) := by decide +kernel
theorem dX6_strip_44 : decode cX6_strip 44 = .ok (.getfield 10, 3) := by decide +kernel
theorem dX6_strip_47 : decode cX6_strip 47 = .ok (.invokevirtual 41, 3) := by decide +kernel
theorem dX6_strip_50 : decode cX6_strip 50 = .ok (.aload_n 0, 1) := by decide +kernel
theorem dX6_strip_51 : decode cX6_strip 51 = .ok (.getfield 10, 3) := by decide +kernel
theorem dX6_strip_54 : decode cX6_strip 54 = .ok (.getfield 125, 3) := by decide +kernel
theorem dX6_strip_57 : decode cX6_strip 57 = .ok (.iload_n 1, 1) := by decide +kernel
theorem dX6_strip_58 : decode cX6_strip 58 = .ok (.iload_n 2, 1) := by decide +kernel
theorem dX6_strip_59 : decode cX6_strip 59 = .ok (.invokevirtual 134, 3) := by decide +kernel
theorem dX6_strip_62 : decode cX6_strip 62 = .ok (.ireturn, 1) := by decide +kernel
theorem dX6_flaw_0 : decode cX6_flaw 0 = .ok (.aload_n 0, 1) := by decide +kernel
theorem dX6_flaw_1 : decode cX6_flaw 1 = .ok (.getfield 10, 3) := by decide +kernel
theorem dX6_flaw_4 : decode cX6_flaw 4 = .ok (.getfield 125, 3) := by decide +kernel
theorem dX6_flaw_7 : decode cX6_flaw 7 = .ok (.iload_n 1, 1) := by decide +kernel
theorem dX6_flaw_8 : decode cX6_flaw 8 = .ok (.invokevirtual 137, 3) := by decide +kernel
theorem dX6_flaw_11 : decode cX6_flaw 11 = .ok (.astore_n 3, 1) := by decide +kernel
theorem dX6_flaw_12 : decode cX6_flaw 12 = .ok (.aload_n 3, 1) := by decide +kernel
theorem dX6_flaw_13 : decode cX6_flaw 13 = .ok (.ifnull 14, 3) := by decide +kernel
theorem dX6_flaw_16 : decode cX6_flaw 16 = .ok (.iload_n 2, 1) := by decide +kernel
theorem dX6_flaw_17 : decode cX6_flaw 17 = .ok (.iconst 0, 1) := by decide +kernel
theorem dX6_flaw_18 : decode cX6_flaw 18 = .ok (.sipush 999, 3) := by decide +kernel
theorem dX6_flaw_21 : decode cX6_flaw 21 = .ok (.invokestatic 33, 3) := by decide +kernel
theorem dX6_flaw_24 : decode cX6_flaw 24 = .ok (.ifCond .ne 5, 3) := by decide +kernel
theorem dX6_flaw_27 : decode cX6_flaw 27 = .ok (.iconst (-1), 1) := by decide +kernel
theorem dX6_flaw_28 : decode cX6_flaw 28 = .ok (.ireturn, 1) := by decide +kernel
theorem dX6_flaw_29 : decode cX6_flaw 29 = .ok (.iload_n 2, 1) := by decide +kernel
theorem dX6_flaw_30 : decode cX6_flaw 30 = .ok (.aload_n 3, 1) := by decide +kernel
theorem dX6_flaw_31 : decode cX6_flaw 31 = .ok (.getfield 141, 3) := by decide +kernel
theorem dX6_flaw_34 : decode cX6_flaw 34 = .ok (.aload_n 3, 1) := by decide +kernel
theorem dX6_flaw_35 : decode cX6_flaw 35 = .ok (.getfield 146, 3) := by decide +kernel
theorem dX6_flaw_38 : decode cX6_flaw 38 = .ok (.iconst 1, 1) := by decide +kernel
theorem dX6_flaw_39 : decode cX6_flaw 39 = .ok (.isub, 1) := by decide +kernel
theorem dX6_flaw_40 : decode cX6_flaw 40 = .ok (.invokestatic 33, 3) := by decide +kernel
theorem dX6_flaw_43 : decode cX6_flaw 43 = .ok (.ifCond .eq 14, 3) := by decide +kernel
theorem dX6_flaw_46 : decode cX6_flaw 46 = .ok (.aload_n 3, 1) := by decide +kernel
theorem dX6_flaw_47 : decode cX6_flaw 47 = .ok (.iload_n 2, 1) := by decide +kernel
theorem dX6_flaw_48 : decode cX6_flaw 48 = .ok (.iload_n 2, 1) := by decide +kernel
theorem dX6_flaw_49 : decode cX6_flaw 49 = .ok (.iconst 1, 1) := by decide +kernel
theorem dX6_flaw_50 : decode cX6_flaw 50 = .ok (.iadd, 1) := by decide +kernel
theorem dX6_flaw_51 : decode cX6_flaw 51 = .ok (.invokevirtual 149, 3) := by decide +kernel
theorem dX6_flaw_54 : decode cX6_flaw 54 = .ok (.ifCond .eq 6, 3) := by decide +kernel
theorem dX6_flaw_57 : decode cX6_flaw 57 = .ok (.bipush (-2), 2) := by decide +kernel
theorem dX6_flaw_59 : decode cX6_flaw 59 = .ok (.ireturn, 1) := by decide +kernel
theorem dX6_flaw_60 : decode cX6_flaw 60 = .ok (.aload_n 3, 1) := by decide +kernel
theorem dX6_flaw_61 : decode cX6_flaw 61 = .ok (.getfield 152, 3) := by decide +kernel
theorem dX6_flaw_64 : decode cX6_flaw 64 = .ok (.bipush 6, 2) := by decide +kernel
theorem dX6_flaw_66 : decode cX6_flaw 66 = .ok (.if_icmp .lt 6, 3) := by decide +kernel
theorem dX6_flaw_69 : decode cX6_flaw 69 = .ok (.bipush (-3), 2) := by decide +kernel
theorem dX6_flaw_71 : decode cX6_flaw 71 = .ok (.ireturn, 1) := by decide +kernel
theorem dX6_flaw_72 : decode cX6_flaw 72 = .ok (.aload_n 0, 1) := by decide +kernel
theorem dX6_flaw_73 : decode cX6_flaw 73 = .ok (.getfield 22, 3) := by decide +kernel
theorem dX6_flaw_76 : decode cX6_flaw 76 = .ok (.aload_n 0, 1) := by decide +kernel
theorem dX6_flaw_77 : decode cX6_flaw 77 = .ok (.getfield 10, 3) := by decide +kernel
theorem dX6_flaw_80 : decode cX6_flaw 80 = .ok (.invokevirtual 41, 3) := by decide +kernel
theorem dX6_flaw_83 : decode cX6_flaw 83 = .ok (.aload_n 3, 1) := by decide +kernel
theorem dX6_flaw_84 : decode cX6_flaw 84 = .ok (.iload_n 2, 1) := by decide +kernel
theorem dX6_flaw_85 : decode cX6_flaw 85 = .ok (.invokevirtual 155, 3) := by decide +kernel
theorem dX6_flaw_88 : decode cX6_flaw 88 = .ok (.aload_n 3, 1) := by decide +kernel
theorem dX6_flaw_89 : decode cX6_flaw 89 = .ok (.getfield 152, 3) := by decide +kernel
theorem dX6_flaw_92 : decode cX6_flaw 92 = .ok (.ireturn, 1) := by decide +kernel
theorem dX6_cut_0 : decode cX6_cut 0 = .ok (.aload_n 0, 1) := by decide +kernel
theorem dX6_cut_1 : decode cX6_cut 1 = .ok (.getfield 10, 3) := by decide +kernel
theorem dX6_cut_4 : decode cX6_cut 4 = .ok (.getfield 125, 3) := by decide +kernel
theorem dX6_cut_7 : decode cX6_cut 7 = .ok (.iload_n 1, 1) := by decide +kernel
theorem dX6_cut_8 : decode cX6_cut 8 = .ok (.invokevirtual 137, 3) := by decide +kernel
theorem dX6_cut_11 : decode cX6_cut 11 = .ok (.astore_n 2, 1) := by decide +kernel
theorem dX6_cut_12 : decode cX6_cut 12 = .ok (.aload_n 2, 1) := by decide +kernel
theorem dX6_cut_13 : decode cX6_cut 13 = .ok (.ifnonnull 5, 3) := by decide +kernel
theorem dX6_cut_16 : decode cX6_cut 16 = .ok (.iconst (-1), 1) := by decide +kernel
theorem dX6_cut_17 : decode cX6_cut 17 = .ok (.ireturn, 1) := by decide +kernel
theorem dX6_cut_18 : decode cX6_cut 18 = .ok (.aload_n 2, 1) := by decide +kernel
theorem dX6_cut_19 : decode cX6_cut 19 = .ok (.invokevirtual 159, 3) := by decide +kernel
theorem dX6_cut_22 : decode cX6_cut 22 = .ok (.aload_n 0, 1) := by decide +kernel
theorem dX6_cut_23 : decode cX6_cut 23 = .ok (.getfield 10, 3) := by decide +kernel
theorem dX6_cut_26 : decode cX6_cut 26 = .ok (.getfield 125, 3) := by decide +kernel
theorem dX6_cut_29 : decode cX6_cut 29 = .ok (.getfield 162, 3) := by decide +kernel
theorem dX6_cut_32 : decode cX6_cut 32 = .ok (.if_icmp .ge 6, 3) := by decide +kernel
theorem dX6_cut_35 : decode cX6_cut 35 = .ok (.bipush (-2), 2) := by decide +kernel
theorem dX6_cut_37 : decode cX6_cut 37 = .ok (.ireturn, 1) := by decide +kernel
theorem dX6_cut_38 : decode cX6_cut 38 = .ok (.aload_n 0, 1) := by decide +kernel
theorem dX6_cut_39 : decode cX6_cut 39 = .ok (.getfield 22, 3) := by decide +kernel
theorem dX6_cut_42 : decode cX6_cut 42 = .ok (.aload_n 0, 1) := by decide +kernel
theorem dX6_cut_43 : decode cX6_cut 43 = .ok (.getfield 10, 3) := by decide +kernel
theorem dX6_cut_46 : decode cX6_cut 46 = .ok (.invokevirtual 41, 3) := by decide +kernel
theorem dX6_cut_49 : decode cX6_cut 49 = .ok (.aload_n 0, 1) := by decide +kernel
theorem dX6_cut_50 : decode cX6_cut 50 = .ok (.getfield 10, 3) := by decide +kernel
theorem dX6_cut_53 : decode cX6_cut 53 = .ok (.getfield 125, 3) := by decide +kernel
theorem dX6_cut_56 : decode cX6_cut 56 = .ok (.aload_n 2, 1) := by decide +kernel
theorem dX6_cut_57 : decode cX6_cut 57 = .ok (.invokevirtual 165, 3) := by decide +kernel
theorem dX6_cut_60 : decode cX6_cut 60 = .ok (.ifCond .eq 7, 3) := by decide +kernel
theorem dX6_cut_63 : decode cX6_cut 63 = .ok (.iconst 1, 1) := by decide +kernel
theorem dX6_cut_64 : decode cX6_cut 64 = .ok (.goto 4, 3) := by decide +kernel
theorem dX6_cut_67 : decode cX6_cut 67 = .ok (.iconst 0, 1) := by decide +kernel
theorem dX6_cut_68 : decode cX6_cut 68 = .ok (.ireturn, 1) := by decide +kernel
theorem dX6_stripOf_0 : decode cX6_stripOf 0 = .ok (.aload_n 0, 1) := by decide +kernel
theorem dX6_stripOf_1 : decode cX6_stripOf 1 = .ok (.getfield 10, 3) := by decide +kernel
theorem dX6_stripOf_4 : decode cX6_stripOf 4 = .ok (.getfield 125, 3) := by decide +kernel
theorem dX6_stripOf_7 : decode cX6_stripOf 7 = .ok (.iload_n 1, 1) := by decide +kernel
theorem dX6_stripOf_8 : decode cX6_stripOf 8 = .ok (.invokevirtual 137, 3) := by decide +kernel
theorem dX6_stripOf_11 : decode cX6_stripOf 11 = .ok (.astore_n 3, 1) := by decide +kernel
theorem dX6_stripOf_12 : decode cX6_stripOf 12 = .ok (.aload_n 3, 1) := by decide +kernel
theorem dX6_stripOf_13 : decode cX6_stripOf 13 = .ok (.ifnonnull 5, 3) := by decide +kernel
theorem dX6_stripOf_16 : decode cX6_stripOf 16 = .ok (.iconst (-1), 1) := by decide +kernel
theorem dX6_stripOf_17 : decode cX6_stripOf 17 = .ok (.ireturn, 1) := by decide +kernel
theorem dX6_stripOf_18 : decode cX6_stripOf 18 = .ok (.iload_n 2, 1) := by decide +kernel
theorem dX6_stripOf_19 : decode cX6_stripOf 19 = .ok (.tableswitch 116 0 6 #[41, 46, 51, 56, 61, 86, 111], 41) := by decide +kernel
theorem dX6_stripOf_60 : decode cX6_stripOf 60 = .ok (.aload_n 3, 1) := by decide +kernel
theorem dX6_stripOf_61 : decode cX6_stripOf 61 = .ok (.getfield 146, 3) := by decide +kernel
theorem dX6_stripOf_64 : decode cX6_stripOf 64 = .ok (.ireturn, 1) := by decide +kernel
theorem dX6_stripOf_65 : decode cX6_stripOf 65 = .ok (.aload_n 3, 1) := by decide +kernel
theorem dX6_stripOf_66 : decode cX6_stripOf 66 = .ok (.getfield 169, 3) := by decide +kernel
theorem dX6_stripOf_69 : decode cX6_stripOf 69 = .ok (.ireturn, 1) := by decide +kernel
theorem dX6_stripOf_70 : decode cX6_stripOf 70 = .ok (.aload_n 3, 1) := by decide +kernel
theorem dX6_stripOf_71 : decode cX6_stripOf 71 = .ok (.invokevirtual 159, 3) := by decide +kernel
theorem dX6_stripOf_74 : decode cX6_stripOf 74 = .ok (.ireturn, 1) := by decide +kernel
theorem dX6_stripOf_75 : decode cX6_stripOf 75 = .ok (.aload_n 3, 1) := by decide +kernel
theorem dX6_stripOf_76 : decode cX6_stripOf 76 = .ok (.getfield 152, 3) := by decide +kernel
theorem dX6_stripOf_79 : decode cX6_stripOf 79 = .ok (.ireturn, 1) := by decide +kernel
theorem dX6_stripOf_80 : decode cX6_stripOf 80 = .ok (.aload_n 3, 1) := by decide +kernel
theorem dX6_stripOf_81 : decode cX6_stripOf 81 = .ok (.aload_n 0, 1) := by decide +kernel
theorem dX6_stripOf_82 : decode cX6_stripOf 82 = .ok (.getfield 10, 3) := by decide +kernel
theorem dX6_stripOf_85 : decode cX6_stripOf 85 = .ok (.getfield 125, 3) := by decide +kernel
theorem dX6_stripOf_88 : decode cX6_stripOf 88 = .ok (.getfield 162, 3) := by decide +kernel
theorem dX6_stripOf_91 : decode cX6_stripOf 91 = .ok (.aload_n 0, 1) := by decide +kernel
theorem dX6_stripOf_92 : decode cX6_stripOf 92 = .ok (.getfield 10, 3) := by decide +kernel
theorem dX6_stripOf_95 : decode cX6_stripOf 95 = .ok (.getfield 125, 3) := by decide +kernel
theorem dX6_stripOf_98 : decode cX6_stripOf 98 = .ok (.getfield 172, 3) := by decide +kernel
theorem dX6_stripOf_101 : decode cX6_stripOf 101 = .ok (.invokevirtual 175, 3) := by decide +kernel
theorem dX6_stripOf_104 : decode cX6_stripOf 104 = .ok (.ireturn, 1) := by decide +kernel
theorem dX6_stripOf_105 : decode cX6_stripOf 105 = .ok (.aload_n 3, 1) := by decide +kernel
theorem dX6_stripOf_106 : decode cX6_stripOf 106 = .ok (.aload_n 0, 1) := by decide +kernel
theorem dX6_stripOf_107 : decode cX6_stripOf 107 = .ok (.getfield 10, 3) := by decide +kernel
theorem dX6_stripOf_110 : decode cX6_stripOf 110 = .ok (.getfield 125, 3) := by decide +kernel
theorem dX6_stripOf_113 : decode cX6_stripOf 113 = .ok (.getfield 162, 3) := by decide +kernel
theorem dX6_stripOf_116 : decode cX6_stripOf 116 = .ok (.aload_n 0, 1) := by decide +kernel
theorem dX6_stripOf_117 : decode cX6_stripOf 117 = .ok (.getfield 10, 3) := by decide +kernel
theorem dX6_stripOf_120 : decode cX6_stripOf 120 = .ok (.getfield 125, 3) := by decide +kernel
theorem dX6_stripOf_123 : decode cX6_stripOf 123 = .ok (.getfield 172, 3) := by decide +kernel
theorem dX6_stripOf_126 : decode cX6_stripOf 126 = .ok (.invokevirtual 178, 3) := by decide +kernel
theorem dX6_stripOf_129 : decode cX6_stripOf 129 = .ok (.ireturn, 1) := by decide +kernel
theorem dX6_stripOf_130 : decode cX6_stripOf 130 = .ok (.aload_n 3, 1) := by decide +kernel
theorem dX6_stripOf_131 : decode cX6_stripOf 131 = .ok (.getfield 181, 3) := by decide +kernel
theorem dX6_stripOf_134 : decode cX6_stripOf 134 = .ok (.ireturn, 1) := by decide +kernel
theorem dX6_stripOf_135 : decode cX6_stripOf 135 = .ok (.iconst (-1), 1) := by decide +kernel
theorem dX6_stripOf_136 : decode cX6_stripOf 136 = .ok (.ireturn, 1) := by decide +kernel
theorem dX6_lay_0 : decode cX6_lay 0 = .ok (.aload_n 0, 1) := by decide +kernel
theorem dX6_lay_1 : decode cX6_lay 1 = .ok (.getfield 10, 3) := by decide +kernel
theorem dX6_lay_4 : decode cX6_lay 4 = .ok (.getfield 45, 3) := by decide +kernel
theorem dX6_lay_7 : decode cX6_lay 7 = .ok (.iload_n 1, 1) := by decide +kernel
theorem dX6_lay_8 : decode cX6_lay 8 = .ok (.iload_n 2, 1) := by decide +kernel
theorem dX6_lay_9 : decode cX6_lay 9 = .ok (.invokevirtual 73, 3) := by decide +kernel
theorem dX6_lay_12 : decode cX6_lay 12 = .ok (.ifCond .ne 5, 3) := by decide +kernel
theorem dX6_lay_15 : decode cX6_lay 15 = .ok (.iconst (-1), 1) := by decide +kernel
theorem dX6_lay_16 : decode cX6_lay 16 = .ok (.ireturn, 1) := by decide +kernel
theorem dX6_lay_17 : decode cX6_lay 17 = .ok (.aload_n 0, 1) := by decide +kernel
theorem dX6_lay_18 : decode cX6_lay 18 = .ok (.getfield 10, 3) := by decide +kernel
theorem dX6_lay_21 : decode cX6_lay 21 = .ok (.iload_n 1, 1) := by decide +kernel
theorem dX6_lay_22 : decode cX6_lay 22 = .ok (.iload_n 2, 1) := by decide +kernel
theorem dX6_lay_23 : decode cX6_lay 23 = .ok (.invokevirtual 84, 3) := by decide +kernel
theorem dX6_lay_26 : decode cX6_lay 26 = .ok (.ifCond .ne 16, 3) := by decide +kernel
theorem dX6_lay_29 : decode cX6_lay 29 = .ok (.aload_n 0, 1) := by decide +kernel
theorem dX6_lay_30 : decode cX6_lay 30 = .ok (.getfield 10, 3) := by decide +kernel
theorem dX6_lay_33 : decode cX6_lay 33 = .ok (.iload_n 1, 1) := by decide +kernel
theorem dX6_lay_34 : decode cX6_lay 34 = .ok (.iload_n 2, 1) := by decide +kernel
theorem dX6_lay_35 : decode cX6_lay 35 = .ok (.invokevirtual 184, 3) := by decide +kernel
theorem dX6_lay_38 : decode cX6_lay 38 = .ok (.iconst (-1), 1) := by decide +kernel
theorem dX6_lay_39 : decode cX6_lay 39 = .ok (.if_icmp .ne 6, 3) := by decide +kernel
theorem dX6_lay_42 : decode cX6_lay 42 = .ok (.bipush (-2), 2) := by decide +kernel
theorem dX6_lay_44 : decode cX6_lay 44 = .ok (.ireturn, 1) := by decide +kernel
theorem dX6_lay_45 : decode cX6_lay 45 = .ok (.aload_n 0, 1) := by decide +kernel
theorem dX6_lay_46 : decode cX6_lay 46 = .ok (.getfield 22, 3) := by decide +kernel
theorem dX6_lay_49 : decode cX6_lay 49 = .ok (.aload_n 0, 1) := by decide +kernel
theorem dX6_lay_50 : decode cX6_lay 50 = .ok (.getfield 10, 3) := by decide +kernel
theorem dX6_lay_53 : decode cX6_lay 53 = .ok (.invokevirtual 41, 3) := by decide +kernel
theorem dX6_lay_56 : decode cX6_lay 56 = .ok (.aload_n 0, 1) := by decide +kernel
theorem dX6_lay_57 : decode cX6_lay 57 = .ok (.getfield 10, 3) := by decide +kernel
theorem dX6_lay_60 : decode cX6_lay 60 = .ok (.iload_n 1, 1) := by decide +kernel
theorem dX6_lay_61 : decode cX6_lay 61 = .ok (.iload_n 2, 1) := by decide +kernel
theorem dX6_lay_62 : decode cX6_lay 62 = .ok (.invokevirtual 187, 3) := by decide +kernel
theorem dX6_lay_65 : decode cX6_lay 65 = .ok (.aload_n 0, 1) := by decide +kernel
theorem dX6_lay_66 : decode cX6_lay 66 = .ok (.getfield 10, 3) := by decide +kernel
theorem dX6_lay_69 : decode cX6_lay 69 = .ok (.iload_n 1, 1) := by decide +kernel
theorem dX6_lay_70 : decode cX6_lay 70 = .ok (.iload_n 2, 1) := by decide +kernel
theorem dX6_lay_71 : decode cX6_lay 71 = .ok (.invokevirtual 95, 3) := by decide +kernel
theorem dX6_lay_74 : decode cX6_lay 74 = .ok (.ireturn, 1) := by decide +kernel
theorem dX6_layAll_0 : decode cX6_layAll 0 = .ok (.aload_n 0, 1) := by decide +kernel
theorem dX6_layAll_1 : decode cX6_layAll 1 = .ok (.getfield 22, 3) := by decide +kernel
theorem dX6_layAll_4 : decode cX6_layAll 4 = .ok (.aload_n 0, 1) := by decide +kernel
theorem dX6_layAll_5 : decode cX6_layAll 5 = .ok (.getfield 10, 3) := by decide +kernel
theorem dX6_layAll_8 : decode cX6_layAll 8 = .ok (.invokevirtual 41, 3) := by decide +kernel
theorem dX6_layAll_11 : decode cX6_layAll 11 = .ok (.aload_n 0, 1) := by decide +kernel
theorem dX6_layAll_12 : decode cX6_layAll 12 = .ok (.getfield 10, 3) := by decide +kernel
theorem dX6_layAll_15 : decode cX6_layAll 15 = .ok (.invokevirtual 190, 3) := by decide +kernel
theorem dX6_layAll_18 : decode cX6_layAll 18 = .ok (.ireturn, 1) := by decide +kernel
theorem dX6_lift_0 : decode cX6_lift 0 = .ok (.aload_n 0, 1) := by decide +kernel
theorem dX6_lift_1 : decode cX6_lift 1 = .ok (.getfield 10, 3) := by decide +kernel
theorem dX6_lift_4 : decode cX6_lift 4 = .ok (.getfield 45, 3) := by decide +kernel
theorem dX6_lift_7 : decode cX6_lift 7 = .ok (.iload_n 1, 1) := by decide +kernel
theorem dX6_lift_8 : decode cX6_lift 8 = .ok (.iload_n 2, 1) := by decide +kernel
theorem dX6_lift_9 : decode cX6_lift 9 = .ok (.invokevirtual 73, 3) := by decide +kernel
theorem dX6_lift_12 : decode cX6_lift 12 = .ok (.ifCond .ne 5, 3) := by decide +kernel
theorem dX6_lift_15 : decode cX6_lift 15 = .ok (.iconst (-1), 1) := by decide +kernel
theorem dX6_lift_16 : decode cX6_lift 16 = .ok (.ireturn, 1) := by decide +kernel
theorem dX6_lift_17 : decode cX6_lift 17 = .ok (.aload_n 0, 1) := by decide +kernel
theorem dX6_lift_18 : decode cX6_lift 18 = .ok (.getfield 10, 3) := by decide +kernel
theorem dX6_lift_21 : decode cX6_lift 21 = .ok (.iload_n 1, 1) := by decide +kernel
theorem dX6_lift_22 : decode cX6_lift 22 = .ok (.iload_n 2, 1) := by decide +kernel
theorem dX6_lift_23 : decode cX6_lift 23 = .ok (.invokevirtual 84, 3) := by decide +kernel
theorem dX6_lift_26 : decode cX6_lift 26 = .ok (.ifCond .ne 6, 3) := by decide +kernel
theorem dX6_lift_29 : decode cX6_lift 29 = .ok (.bipush (-2), 2) := by decide +kernel
theorem dX6_lift_31 : decode cX6_lift 31 = .ok (.ireturn, 1) := by decide +kernel
theorem dX6_lift_32 : decode cX6_lift 32 = .ok (.aload_n 0, 1) := by decide +kernel
theorem dX6_lift_33 : decode cX6_lift 33 = .ok (.getfield 22, 3) := by decide +kernel
theorem dX6_lift_36 : decode cX6_lift 36 = .ok (.aload_n 0, 1) := by decide +kernel
theorem dX6_lift_37 : decode cX6_lift 37 = .ok (.getfield 10, 3) := by decide +kernel
theorem dX6_lift_40 : decode cX6_lift 40 = .ok (.invokevirtual 41, 3) := by decide +kernel
theorem dX6_lift_43 : decode cX6_lift 43 = .ok (.aload_n 0, 1) := by decide +kernel
theorem dX6_lift_44 : decode cX6_lift 44 = .ok (.getfield 10, 3) := by decide +kernel
theorem dX6_lift_47 : decode cX6_lift 47 = .ok (.iload_n 1, 1) := by decide +kernel
theorem dX6_lift_48 : decode cX6_lift 48 = .ok (.iload_n 2, 1) := by decide +kernel
theorem dX6_lift_49 : decode cX6_lift 49 = .ok (.invokevirtual 193, 3) := by decide +kernel
theorem dX6_lift_52 : decode cX6_lift 52 = .ok (.ifCond .eq 7, 3) := by decide +kernel
theorem dX6_lift_55 : decode cX6_lift 55 = .ok (.iconst 1, 1) := by decide +kernel
theorem dX6_lift_56 : decode cX6_lift 56 = .ok (.goto 4, 3) := by decide +kernel
theorem dX6_lift_59 : decode cX6_lift 59 = .ok (.iconst 0, 1) := by decide +kernel
theorem dX6_lift_60 : decode cX6_lift 60 = .ok (.ireturn, 1) := by decide +kernel
theorem dX6_nearest_0 : decode cX6_nearest 0 = .ok (.aload_n 0, 1) := by decide +kernel
theorem dX6_nearest_1 : decode cX6_nearest 1 = .ok (.getfield 10, 3) := by decide +kernel
theorem dX6_nearest_4 : decode cX6_nearest 4 = .ok (.getfield 45, 3) := by decide +kernel
theorem dX6_nearest_7 : decode cX6_nearest 7 = .ok (.iload_n 1, 1) := by decide +kernel
theorem dX6_nearest_8 : decode cX6_nearest 8 = .ok (.iload_n 2, 1) := by decide +kernel
theorem dX6_nearest_9 : decode cX6_nearest 9 = .ok (.invokevirtual 73, 3) := by decide +kernel
theorem dX6_nearest_12 : decode cX6_nearest 12 = .ok (.ifCond .ne 5, 3) := by decide +kernel
theorem dX6_nearest_15 : decode cX6_nearest 15 = .ok (.iconst (-1), 1) := by decide +kernel
theorem dX6_nearest_16 : decode cX6_nearest 16 = .ok (.ireturn, 1) := by decide +kernel
theorem dX6_nearest_17 : decode cX6_nearest 17 = .ok (.aload_n 0, 1) := by decide +kernel
theorem dX6_nearest_18 : decode cX6_nearest 18 = .ok (.getfield 10, 3) := by decide +kernel
theorem dX6_nearest_21 : decode cX6_nearest 21 = .ok (.iload_n 1, 1) := by decide +kernel
theorem dX6_nearest_22 : decode cX6_nearest 22 = .ok (.iload_n 2, 1) := by decide +kernel
theorem dX6_nearest_23 : decode cX6_nearest 23 = .ok (.invokevirtual 84, 3) := by decide +kernel
theorem dX6_nearest_26 : decode cX6_nearest 26 = .ok (.ifCond .eq 6, 3) := by decide +kernel
theorem dX6_nearest_29 : decode cX6_nearest 29 = .ok (.bipush (-4), 2) := by decide +kernel
theorem dX6_nearest_31 : decode cX6_nearest 31 = .ok (.ireturn, 1) := by decide +kernel
theorem dX6_nearest_32 : decode cX6_nearest 32 = .ok (.aload_n 0, 1) := by decide +kernel
theorem dX6_nearest_33 : decode cX6_nearest 33 = .ok (.getfield 10, 3) := by decide +kernel
theorem dX6_nearest_36 : decode cX6_nearest 36 = .ok (.iload_n 1, 1) := by decide +kernel
theorem dX6_nearest_37 : decode cX6_nearest 37 = .ok (.iload_n 2, 1) := by decide +kernel
theorem dX6_nearest_38 : decode cX6_nearest 38 = .ok (.invokevirtual 184, 3) := by decide +kernel
theorem dX6_nearest_41 : decode cX6_nearest 41 = .ok (.istore_n 3, 1) := by decide +kernel
theorem dX6_nearest_42 : decode cX6_nearest 42 = .ok (.iload_n 3, 1) := by decide +kernel
theorem dX6_nearest_43 : decode cX6_nearest 43 = .ok (.iconst (-1), 1) := by decide +kernel
theorem dX6_nearest_44 : decode cX6_nearest 44 = .ok (.if_icmp .ne 8, 3) := by decide +kernel
theorem dX6_nearest_47 : decode cX6_nearest 47 = .ok (.bipush (-4), 2) := by decide +kernel
theorem dX6_nearest_49 : decode cX6_nearest 49 = .ok (.goto 4, 3) := by decide +kernel
theorem dX6_nearest_52 : decode cX6_nearest 52 = .ok (.iload_n 3, 1) := by decide +kernel
theorem dX6_nearest_53 : decode cX6_nearest 53 = .ok (.ireturn, 1) := by decide +kernel
theorem dX6_ready_0 : decode cX6_ready 0 = .ok (.iload_n 1, 1) := by decide +kernel
theorem dX6_ready_1 : decode cX6_ready 1 = .ok (.invokestatic 77, 3) := by decide +kernel
theorem dX6_ready_4 : decode cX6_ready 4 = .ok (.ifCond .eq 17, 3) := by decide +kernel
theorem dX6_ready_7 : decode cX6_ready 7 = .ok (.aload_n 0, 1) := by decide +kernel
theorem dX6_ready_8 : decode cX6_ready 8 = .ok (.getfield 10, 3) := by decide +kernel
theorem dX6_ready_11 : decode cX6_ready 11 = .ok (.getfield 125, 3) := by decide +kernel
theorem dX6_ready_14 : decode cX6_ready 14 = .ok (.iload_n 1, 1) := by decide +kernel
theorem dX6_ready_15 : decode cX6_ready 15 = .ok (.invokevirtual 196, 3) := by decide +kernel
theorem dX6_ready_18 : decode cX6_ready 18 = .ok (.goto 4, 3) := by decide +kernel
theorem dX6_ready_21 : decode cX6_ready 21 = .ok (.iconst (-1), 1) := by decide +kernel
theorem dX6_ready_22 : decode cX6_ready 22 = .ok (.ireturn, 1) := by decide +kernel
theorem dX6_lacks_0 : decode cX6_lacks 0 = .ok (.iload_n 1, 1) := by decide +kernel
theorem dX6_lacks_1 : decode cX6_lacks 1 = .ok (.invokestatic 77, 3) := by decide +kernel
theorem dX6_lacks_4 : decode cX6_lacks 4 = .ok (.ifCond .eq 14, 3) := by decide +kernel
theorem dX6_lacks_7 : decode cX6_lacks 7 = .ok (.aload_n 0, 1) := by decide +kernel
theorem dX6_lacks_8 : decode cX6_lacks 8 = .ok (.getfield 10, 3) := by decide +kernel
theorem dX6_lacks_11 : decode cX6_lacks 11 = .ok (.iload_n 1, 1) := by decide +kernel
theorem dX6_lacks_12 : decode cX6_lacks 12 = .ok (.invokevirtual 199, 3) := by decide +kernel
theorem dX6_lacks_15 : decode cX6_lacks 15 = .ok (.goto 4, 3) := by decide +kernel
theorem dX6_lacks_18 : decode cX6_lacks 18 = .ok (.iconst (-1), 1) := by decide +kernel
theorem dX6_lacks_19 : decode cX6_lacks 19 = .ok (.ireturn, 1) := by decide +kernel
theorem dX6_stripFor_0 : decode cX6_stripFor 0 = .ok (.iload_n 1, 1) := by decide +kernel
theorem dX6_stripFor_1 : decode cX6_stripFor 1 = .ok (.invokestatic 77, 3) := by decide +kernel
theorem dX6_stripFor_4 : decode cX6_stripFor 4 = .ok (.ifCond .ne 5, 3) := by decide +kernel
theorem dX6_stripFor_7 : decode cX6_stripFor 7 = .ok (.iconst (-1), 1) := by decide +kernel
theorem dX6_stripFor_8 : decode cX6_stripFor 8 = .ok (.ireturn, 1) := by decide +kernel
theorem dX6_stripFor_9 : decode cX6_stripFor 9 = .ok (.aload_n 0, 1) := by decide +kernel
theorem dX6_stripFor_10 : decode cX6_stripFor 10 = .ok (.getfield 10, 3) := by decide +kernel
theorem dX6_stripFor_13 : decode cX6_stripFor 13 = .ok (.iload_n 1, 1) := by decide +kernel
theorem dX6_stripFor_14 : decode cX6_stripFor 14 = .ok (.invokevirtual 199, 3) := by decide +kernel
theorem dX6_stripFor_17 : decode cX6_stripFor 17 = .ok (.istore_n 2, 1) := by decide +kernel
theorem dX6_stripFor_18 : decode cX6_stripFor 18 = .ok (.iload_n 2, 1) := by decide +kernel
theorem dX6_stripFor_19 : decode cX6_stripFor 19 = .ok (.ifCond .ne 5, 3) := by decide +kernel
theorem dX6_stripFor_22 : decode cX6_stripFor 22 = .ok (.iconst 0, 1) := by decide +kernel
theorem dX6_stripFor_23 : decode cX6_stripFor 23 = .ok (.ireturn, 1) := by decide +kernel
theorem dX6_stripFor_24 : decode cX6_stripFor 24 = .ok (.iload_n 2, 1) := by decide +kernel
theorem dX6_stripFor_25 : decode cX6_stripFor 25 = .ok (.aload_n 0, 1) := by decide +kernel
theorem dX6_stripFor_26 : decode cX6_stripFor 26 = .ok (.getfield 10, 3) := by decide +kernel
theorem dX6_stripFor_29 : decode cX6_stripFor 29 = .ok (.getfield 125, 3) := by decide +kernel
theorem dX6_stripFor_32 : decode cX6_stripFor 32 = .ok (.getfield 162, 3) := by decide +kernel
theorem dX6_stripFor_35 : decode cX6_stripFor 35 = .ok (.imul, 1) := by decide +kernel
theorem dX6_stripFor_36 : decode cX6_stripFor 36 = .ok (.iload_n 2, 1) := by decide +kernel
theorem dX6_stripFor_37 : decode cX6_stripFor 37 = .ok (.iconst 1, 1) := by decide +kernel
theorem dX6_stripFor_38 : decode cX6_stripFor 38 = .ok (.isub, 1) := by decide +kernel
theorem dX6_stripFor_39 : decode cX6_stripFor 39 = .ok (.aload_n 0, 1) := by decide +kernel
theorem dX6_stripFor_40 : decode cX6_stripFor 40 = .ok (.getfield 10, 3) := by decide +kernel
theorem dX6_stripFor_43 : decode cX6_stripFor 43 = .ok (.getfield 125, 3) := by decide +kernel
theorem dX6_stripFor_46 : decode cX6_stripFor 46 = .ok (.getfield 172, 3) := by decide +kernel
theorem dX6_stripFor_49 : decode cX6_stripFor 49 = .ok (.imul, 1) := by decide +kernel
theorem dX6_stripFor_50 : decode cX6_stripFor 50 = .ok (.iadd, 1) := by decide +kernel
theorem dX6_stripFor_51 : decode cX6_stripFor 51 = .ok (.istore_n 3, 1) := by decide +kernel
theorem dX6_stripFor_52 : decode cX6_stripFor 52 = .ok (.iload_n 3, 1) := by decide +kernel
theorem dX6_stripFor_53 : decode cX6_stripFor 53 = .ok (.sipush 1000, 3) := by decide +kernel
theorem dX6_stripFor_56 : decode cX6_stripFor 56 = .ok (.if_icmp .le 8, 3) := by decide +kernel
theorem dX6_stripFor_59 : decode cX6_stripFor 59 = .ok (.bipush (-4), 2) := by decide +kernel
theorem dX6_stripFor_61 : decode cX6_stripFor 61 = .ok (.goto 9, 3) := by decide +kernel
theorem dX6_stripFor_64 : decode cX6_stripFor 64 = .ok (.iload_n 3, 1) := by decide +kernel
theorem dX6_stripFor_65 : decode cX6_stripFor 65 = .ok (.bipush 20, 2) := by decide +kernel
theorem dX6_stripFor_67 : decode cX6_stripFor 67 = .ok (.invokestatic 202, 3) := by decide +kernel
theorem dX6_stripFor_70 : decode cX6_stripFor 70 = .ok (.ireturn, 1) := by decide +kernel
theorem dX6_ifLaid_0 : decode cX6_ifLaid 0 = .ok (.aload_n 0, 1) := by decide +kernel
theorem dX6_ifLaid_1 : decode cX6_ifLaid 1 = .ok (.getfield 16, 3) := by decide +kernel
theorem dX6_ifLaid_4 : decode cX6_ifLaid 4 = .ok (.aload_n 0, 1) := by decide +kernel
theorem dX6_ifLaid_5 : decode cX6_ifLaid 5 = .ok (.getfield 10, 3) := by decide +kernel
theorem dX6_ifLaid_8 : decode cX6_ifLaid 8 = .ok (.invokevirtual 207, 3) := by decide +kernel
theorem dX6_ifLaid_11 : decode cX6_ifLaid 11 = .ok (.aload_n 0, 1) := by decide +kernel
theorem dX6_ifLaid_12 : decode cX6_ifLaid 12 = .ok (.getfield 16, 3) := by decide +kernel
theorem dX6_ifLaid_15 : decode cX6_ifLaid 15 = .ok (.invokevirtual 190, 3) := by decide +kernel
theorem dX6_ifLaid_18 : decode cX6_ifLaid 18 = .ok (.pop, 1) := by decide +kernel
theorem dX6_ifLaid_19 : decode cX6_ifLaid 19 = .ok (.aload_n 0, 1) := by decide +kernel
theorem dX6_ifLaid_20 : decode cX6_ifLaid 20 = .ok (.getfield 16, 3) := by decide +kernel
theorem dX6_ifLaid_23 : decode cX6_ifLaid 23 = .ok (.invokevirtual 210, 3) := by decide +kernel
theorem dX6_ifLaid_26 : decode cX6_ifLaid 26 = .ok (.ireturn, 1) := by decide +kernel
theorem dX6_type_0 : decode cX6_type 0 = .ok (.iload_n 1, 1) := by decide +kernel
theorem dX6_type_1 : decode cX6_type 1 = .ok (.bipush 32, 2) := by decide +kernel
theorem dX6_type_3 : decode cX6_type 3 = .ok (.bipush 126, 2) := by decide +kernel
theorem dX6_type_5 : decode cX6_type 5 = .ok (.invokestatic 33, 3) := by decide +kernel
theorem dX6_type_8 : decode cX6_type 8 = .ok (.ifCond .ne 5, 3) := by decide +kernel
theorem dX6_type_11 : decode cX6_type 11 = .ok (.iconst (-1), 1) := by decide +kernel
theorem dX6_type_12 : decode cX6_type 12 = .ok (.ireturn, 1) := by decide +kernel
theorem dX6_type_13 : decode cX6_type 13 = .ok (.aload_n 0, 1) := by decide +kernel
theorem dX6_type_14 : decode cX6_type 14 = .ok (.getfield 29, 3) := by decide +kernel
theorem dX6_type_17 : decode cX6_type 17 = .ok (.getfield 213, 3) := by decide +kernel
theorem dX6_type_20 : decode cX6_type 20 = .ok (.bipush 80, 2) := by decide +kernel
theorem dX6_type_22 : decode cX6_type 22 = .ok (.if_icmp .lt 6, 3) := by decide +kernel
theorem dX6_type_25 : decode cX6_type 25 = .ok (.bipush (-3), 2) := by decide +kernel
theorem dX6_type_27 : decode cX6_type 27 = .ok (.ireturn, 1) := by decide +kernel
theorem dX6_type_28 : decode cX6_type 28 = .ok (.aload_n 0, 1) := by decide +kernel
theorem dX6_type_29 : decode cX6_type 29 = .ok (.getfield 29, 3) := by decide +kernel
theorem dX6_type_32 : decode cX6_type 32 = .ok (.iload_n 1, 1) := by decide +kernel
theorem dX6_type_33 : decode cX6_type 33 = .ok (.invokevirtual 214, 3) := by decide +kernel
theorem dX6_type_36 : decode cX6_type 36 = .ok (.aload_n 0, 1) := by decide +kernel
theorem dX6_type_37 : decode cX6_type 37 = .ok (.getfield 29, 3) := by decide +kernel
theorem dX6_type_40 : decode cX6_type 40 = .ok (.getfield 213, 3) := by decide +kernel
theorem dX6_type_43 : decode cX6_type 43 = .ok (.ireturn, 1) := by decide +kernel
theorem dX6_clearText_0 : decode cX6_clearText 0 = .ok (.aload_n 0, 1) := by decide +kernel
theorem dX6_clearText_1 : decode cX6_clearText 1 = .ok (.getfield 29, 3) := by decide +kernel
theorem dX6_clearText_4 : decode cX6_clearText 4 = .ok (.getfield 213, 3) := by decide +kernel
theorem dX6_clearText_7 : decode cX6_clearText 7 = .ok (.istore_n 1, 1) := by decide +kernel
theorem dX6_clearText_8 : decode cX6_clearText 8 = .ok (.aload_n 0, 1) := by decide +kernel
theorem dX6_clearText_9 : decode cX6_clearText 9 = .ok (.getfield 29, 3) := by decide +kernel
theorem dX6_clearText_12 : decode cX6_clearText 12 = .ok (.iconst 0, 1) := by decide +kernel
theorem dX6_clearText_13 : decode cX6_clearText 13 = .ok (.putfield 213, 3) := by decide +kernel
theorem dX6_clearText_16 : decode cX6_clearText 16 = .ok (.iload_n 1, 1) := by decide +kernel
theorem dX6_clearText_17 : decode cX6_clearText 17 = .ok (.ireturn, 1) := by decide +kernel
theorem dX6_fault_0 : decode cX6_fault 0 = .ok (.aload_n 0, 1) := by decide +kernel
theorem dX6_fault_1 : decode cX6_fault 1 = .ok (.getfield 29, 3) := by decide +kernel
theorem dX6_fault_4 : decode cX6_fault 4 = .ok (.invokevirtual 62, 3) := by decide +kernel
theorem dX6_fault_7 : decode cX6_fault 7 = .ok (.istore_n 1, 1) := by decide +kernel
theorem dX6_fault_8 : decode cX6_fault 8 = .ok (.iload_n 1, 1) := by decide +kernel
theorem dX6_fault_9 : decode cX6_fault 9 = .ok (.iconst (-1), 1) := by decide +kernel
theorem dX6_fault_10 : decode cX6_fault 10 = .ok (.if_icmp .ne 8, 3) := by decide +kernel
theorem dX6_fault_13 : decode cX6_fault 13 = .ok (.bipush (-4), 2) := by decide +kernel
theorem dX6_fault_15 : decode cX6_fault 15 = .ok (.goto 4, 3) := by decide +kernel
theorem dX6_fault_18 : decode cX6_fault 18 = .ok (.iload_n 1, 1) := by decide +kernel
theorem dX6_fault_19 : decode cX6_fault 19 = .ok (.ireturn, 1) := by decide +kernel
theorem dX6_isWithin_0 : decode cX6_isWithin 0 = .ok (.iload_n 0, 1) := by decide +kernel
theorem dX6_isWithin_1 : decode cX6_isWithin 1 = .ok (.iload_n 1, 1) := by decide +kernel
theorem dX6_isWithin_2 : decode cX6_isWithin 2 = .ok (.if_icmp .lt 12, 3) := by decide +kernel
theorem dX6_isWithin_5 : decode cX6_isWithin 5 = .ok (.iload_n 0, 1) := by decide +kernel
theorem dX6_isWithin_6 : decode cX6_isWithin 6 = .ok (.iload_n 2, 1) := by decide +kernel
theorem dX6_isWithin_7 : decode cX6_isWithin 7 = .ok (.if_icmp .gt 7, 3) := by decide +kernel
theorem dX6_isWithin_10 : decode cX6_isWithin 10 = .ok (.iconst 1, 1) := by decide +kernel
theorem dX6_isWithin_11 : decode cX6_isWithin 11 = .ok (.goto 4, 3) := by decide +kernel
theorem dX6_isWithin_14 : decode cX6_isWithin 14 = .ok (.iconst 0, 1) := by decide +kernel
theorem dX6_isWithin_15 : decode cX6_isWithin 15 = .ok (.ireturn, 1) := by decide +kernel
theorem dX6_isShade_0 : decode cX6_isShade 0 = .ok (.iload_n 0, 1) := by decide +kernel
theorem dX6_isShade_1 : decode cX6_isShade 1 = .ok (.ifCond .lt 13, 3) := by decide +kernel
theorem dX6_isShade_4 : decode cX6_isShade 4 = .ok (.iload_n 0, 1) := by decide +kernel
theorem dX6_isShade_5 : decode cX6_isShade 5 = .ok (.bipush 100, 2) := by decide +kernel
theorem dX6_isShade_7 : decode cX6_isShade 7 = .ok (.if_icmp .ge 7, 3) := by decide +kernel
theorem dX6_isShade_10 : decode cX6_isShade 10 = .ok (.iconst 1, 1) := by decide +kernel
theorem dX6_isShade_11 : decode cX6_isShade 11 = .ok (.goto 4, 3) := by decide +kernel
theorem dX6_isShade_14 : decode cX6_isShade 14 = .ok (.iconst 0, 1) := by decide +kernel
theorem dX6_isShade_15 : decode cX6_isShade 15 = .ok (.ireturn, 1) := by decide +kernel
theorem dX6_changeSize_0 : decode cX6_changeSize 0 = .ok (.iload_n 1, 1) := by decide +kernel
theorem dX6_changeSize_1 : decode cX6_changeSize 1 = .ok (.iconst 5, 1) := by decide +kernel
theorem dX6_changeSize_2 : decode cX6_changeSize 2 = .ok (.bipush 60, 2) := by decide +kernel
theorem dX6_changeSize_4 : decode cX6_changeSize 4 = .ok (.invokestatic 33, 3) := by decide +kernel
theorem dX6_changeSize_7 : decode cX6_changeSize 7 = .ok (.ifCond .ne 5, 3) := by decide +kernel
theorem dX6_changeSize_10 : decode cX6_changeSize 10 = .ok (.iconst (-1), 1) := by decide +kernel
theorem dX6_changeSize_11 : decode cX6_changeSize 11 = .ok (.ireturn, 1) := by decide +kernel
theorem dX6_changeSize_12 : decode cX6_changeSize 12 = .ok (.aload_n 0, 1) := by decide +kernel
theorem dX6_changeSize_13 : decode cX6_changeSize 13 = .ok (.getfield 10, 3) := by decide +kernel
theorem dX6_changeSize_16 : decode cX6_changeSize 16 = .ok (.invokevirtual 37, 3) := by decide +kernel
theorem dX6_changeSize_19 : decode cX6_changeSize 19 = .ok (.ifCond .le 6, 3) := by decide +kernel
theorem dX6_changeSize_22 : decode cX6_changeSize 22 = .ok (.bipush (-2), 2) := by decide +kernel
theorem dX6_changeSize_24 : decode cX6_changeSize 24 = .ok (.ireturn, 1) := by decide +kernel
theorem dX6_changeSize_25 : decode cX6_changeSize 25 = .ok (.aload_n 0, 1) := by decide +kernel
theorem dX6_changeSize_26 : decode cX6_changeSize 26 = .ok (.getfield 22, 3) := by decide +kernel
theorem dX6_changeSize_29 : decode cX6_changeSize 29 = .ok (.aload_n 0, 1) := by decide +kernel
theorem dX6_changeSize_30 : decode cX6_changeSize 30 = .ok (.getfield 10, 3) := by decide +kernel
theorem dX6_changeSize_33 : decode cX6_changeSize 33 = .ok (.invokevirtual 41, 3) := by decide +kernel
theorem dX6_changeSize_36 : decode cX6_changeSize 36 = .ok (.aload_n 0, 1) := by decide +kernel
theorem dX6_changeSize_37 : decode cX6_changeSize 37 = .ok (.getfield 10, 3) := by decide +kernel
theorem dX6_changeSize_40 : decode cX6_changeSize 40 = .ok (.getfield 125, 3) := by decide +kernel
theorem dX6_changeSize_43 : decode cX6_changeSize 43 = .ok (.getfield 162, 3) := by decide +kernel
theorem dX6_changeSize_46 : decode cX6_changeSize 46 = .ok (.istore_n 2, 1) := by decide +kernel
theorem dX6_changeSize_47 : decode cX6_changeSize 47 = .ok (.aload_n 0, 1) := by decide +kernel
theorem dX6_changeSize_48 : decode cX6_changeSize 48 = .ok (.getfield 10, 3) := by decide +kernel
theorem dX6_changeSize_51 : decode cX6_changeSize 51 = .ok (.getfield 125, 3) := by decide +kernel
theorem dX6_changeSize_54 : decode cX6_changeSize 54 = .ok (.invokevirtual 217, 3) := by decide +kernel
theorem dX6_changeSize_57 : decode cX6_changeSize 57 = .ok (.aload_n 0, 1) := by decide +kernel
theorem dX6_changeSize_58 : decode cX6_changeSize 58 = .ok (.getfield 10, 3) := by decide +kernel
theorem dX6_changeSize_61 : decode cX6_changeSize 61 = .ok (.getfield 125, 3) := by decide +kernel
theorem dX6_changeSize_64 : decode cX6_changeSize 64 = .ok (.iload_n 1, 1) := by decide +kernel
theorem dX6_changeSize_65 : decode cX6_changeSize 65 = .ok (.putfield 162, 3) := by decide +kernel
theorem dX6_changeSize_68 : decode cX6_changeSize 68 = .ok (.iload_n 2, 1) := by decide +kernel
theorem dX6_changeSize_69 : decode cX6_changeSize 69 = .ok (.ireturn, 1) := by decide +kernel
theorem dX6_changeLoss_0 : decode cX6_changeLoss 0 = .ok (.iload_n 1, 1) := by decide +kernel
theorem dX6_changeLoss_1 : decode cX6_changeLoss 1 = .ok (.iconst 0, 1) := by decide +kernel
theorem dX6_changeLoss_2 : decode cX6_changeLoss 2 = .ok (.iconst 5, 1) := by decide +kernel
theorem dX6_changeLoss_3 : decode cX6_changeLoss 3 = .ok (.invokestatic 33, 3) := by decide +kernel
theorem dX6_changeLoss_6 : decode cX6_changeLoss 6 = .ok (.ifCond .ne 5, 3) := by decide +kernel
theorem dX6_changeLoss_9 : decode cX6_changeLoss 9 = .ok (.iconst (-1), 1) := by decide +kernel
theorem dX6_changeLoss_10 : decode cX6_changeLoss 10 = .ok (.ireturn, 1) := by decide +kernel
theorem dX6_changeLoss_11 : decode cX6_changeLoss 11 = .ok (.aload_n 0, 1) := by decide +kernel
theorem dX6_changeLoss_12 : decode cX6_changeLoss 12 = .ok (.getfield 22, 3) := by decide +kernel
theorem dX6_changeLoss_15 : decode cX6_changeLoss 15 = .ok (.aload_n 0, 1) := by decide +kernel
theorem dX6_changeLoss_16 : decode cX6_changeLoss 16 = .ok (.getfield 10, 3) := by decide +kernel
theorem dX6_changeLoss_19 : decode cX6_changeLoss 19 = .ok (.invokevirtual 41, 3) := by decide +kernel
theorem dX6_changeLoss_22 : decode cX6_changeLoss 22 = .ok (.aload_n 0, 1) := by decide +kernel
theorem dX6_changeLoss_23 : decode cX6_changeLoss 23 = .ok (.getfield 10, 3) := by decide +kernel
theorem dX6_changeLoss_26 : decode cX6_changeLoss 26 = .ok (.getfield 125, 3) := by decide +kernel
theorem dX6_changeLoss_29 : decode cX6_changeLoss 29 = .ok (.getfield 172, 3) := by decide +kernel
theorem dX6_changeLoss_32 : decode cX6_changeLoss 32 = .ok (.istore_n 2, 1) := by decide +kernel
theorem dX6_changeLoss_33 : decode cX6_changeLoss 33 = .ok (.aload_n 0, 1) := by decide +kernel
theorem dX6_changeLoss_34 : decode cX6_changeLoss 34 = .ok (.getfield 10, 3) := by decide +kernel
theorem dX6_changeLoss_37 : decode cX6_changeLoss 37 = .ok (.getfield 125, 3) := by decide +kernel
theorem dX6_changeLoss_40 : decode cX6_changeLoss 40 = .ok (.iload_n 1, 1) := by decide +kernel
theorem dX6_changeLoss_41 : decode cX6_changeLoss 41 = .ok (.putfield 172, 3) := by decide +kernel
theorem dX6_changeLoss_44 : decode cX6_changeLoss 44 = .ok (.iload_n 2, 1) := by decide +kernel
theorem dX6_changeLoss_45 : decode cX6_changeLoss 45 = .ok (.ireturn, 1) := by decide +kernel
theorem dX6_countOfPlan_0 : decode cX6_countOfPlan 0 = .ok (.iload_n 1, 1) := by decide +kernel
theorem dX6_countOfPlan_1 : decode cX6_countOfPlan 1 = .ok (.tableswitch 90 0 4 #[35, 46, 57, 68, 79], 35) := by decide +kernel
theorem dX6_countOfPlan_36 : decode cX6_countOfPlan 36 = .ok (.aload_n 0, 1) := by decide +kernel
theorem dX6_countOfPlan_37 : decode cX6_countOfPlan 37 = .ok (.getfield 10, 3) := by decide +kernel
theorem dX6_countOfPlan_40 : decode cX6_countOfPlan 40 = .ok (.getfield 45, 3) := by decide +kernel
theorem dX6_countOfPlan_43 : decode cX6_countOfPlan 43 = .ok (.getfield 220, 3) := by decide +kernel
theorem dX6_countOfPlan_46 : decode cX6_countOfPlan 46 = .ok (.ireturn, 1) := by decide +kernel
theorem dX6_countOfPlan_47 : decode cX6_countOfPlan 47 = .ok (.aload_n 0, 1) := by decide +kernel
theorem dX6_countOfPlan_48 : decode cX6_countOfPlan 48 = .ok (.getfield 10, 3) := by decide +kernel
theorem dX6_countOfPlan_51 : decode cX6_countOfPlan 51 = .ok (.getfield 45, 3) := by decide +kernel
theorem dX6_countOfPlan_54 : decode cX6_countOfPlan 54 = .ok (.getfield 223, 3) := by decide +kernel
theorem dX6_countOfPlan_57 : decode cX6_countOfPlan 57 = .ok (.ireturn, 1) := by decide +kernel
theorem dX6_countOfPlan_58 : decode cX6_countOfPlan 58 = .ok (.aload_n 0, 1) := by decide +kernel
theorem dX6_countOfPlan_59 : decode cX6_countOfPlan 59 = .ok (.getfield 10, 3) := by decide +kernel
theorem dX6_countOfPlan_62 : decode cX6_countOfPlan 62 = .ok (.getfield 45, 3) := by decide +kernel
theorem dX6_countOfPlan_65 : decode cX6_countOfPlan 65 = .ok (.invokevirtual 226, 3) := by decide +kernel
theorem dX6_countOfPlan_68 : decode cX6_countOfPlan 68 = .ok (.ireturn, 1) := by decide +kernel
theorem dX6_countOfPlan_69 : decode cX6_countOfPlan 69 = .ok (.aload_n 0, 1) := by decide +kernel
theorem dX6_countOfPlan_70 : decode cX6_countOfPlan 70 = .ok (.getfield 10, 3) := by decide +kernel
theorem dX6_countOfPlan_73 : decode cX6_countOfPlan 73 = .ok (.getfield 45, 3) := by decide +kernel
theorem dX6_countOfPlan_76 : decode cX6_countOfPlan 76 = .ok (.getfield 113, 3) := by decide +kernel
theorem dX6_countOfPlan_79 : decode cX6_countOfPlan 79 = .ok (.ireturn, 1) := by decide +kernel
theorem dX6_countOfPlan_80 : decode cX6_countOfPlan 80 = .ok (.aload_n 0, 1) := by decide +kernel
theorem dX6_countOfPlan_81 : decode cX6_countOfPlan 81 = .ok (.getfield 10, 3) := by decide +kernel
theorem dX6_countOfPlan_84 : decode cX6_countOfPlan 84 = .ok (.getfield 45, 3) := by decide +kernel
theorem dX6_countOfPlan_87 : decode cX6_countOfPlan 87 = .ok (.getfield 69, 3) := by decide +kernel
theorem dX6_countOfPlan_90 : decode cX6_countOfPlan 90 = .ok (.ireturn, 1) := by decide +kernel
theorem dX6_countOfPlan_91 : decode cX6_countOfPlan 91 = .ok (.aload_n 0, 1) := by decide +kernel
theorem dX6_countOfPlan_92 : decode cX6_countOfPlan 92 = .ok (.getfield 10, 3) := by decide +kernel
theorem dX6_countOfPlan_95 : decode cX6_countOfPlan 95 = .ok (.getfield 45, 3) := by decide +kernel
theorem dX6_countOfPlan_98 : decode cX6_countOfPlan 98 = .ok (.invokevirtual 229, 3) := by decide +kernel
theorem dX6_countOfPlan_101 : decode cX6_countOfPlan 101 = .ok (.ifCond .eq 7, 3) := by decide +kernel
theorem dX6_countOfPlan_104 : decode cX6_countOfPlan 104 = .ok (.iconst 1, 1) := by decide +kernel
theorem dX6_countOfPlan_105 : decode cX6_countOfPlan 105 = .ok (.goto 4, 3) := by decide +kernel
theorem dX6_countOfPlan_108 : decode cX6_countOfPlan 108 = .ok (.iconst 0, 1) := by decide +kernel
theorem dX6_countOfPlan_109 : decode cX6_countOfPlan 109 = .ok (.ireturn, 1) := by decide +kernel
theorem dX6_countOfWork_0 : decode cX6_countOfWork 0 = .ok (.iload_n 1, 1) := by decide +kernel
theorem dX6_countOfWork_1 : decode cX6_countOfWork 1 = .ok (.tableswitch 162 6 15 #[55, 63, 71, 94, 105, 116, 127, 135, 143, 151], 55) := by decide +kernel
theorem dX6_countOfWork_56 : decode cX6_countOfWork 56 = .ok (.aload_n 0, 1) := by decide +kernel
theorem dX6_countOfWork_57 : decode cX6_countOfWork 57 = .ok (.getfield 10, 3) := by decide +kernel
theorem dX6_countOfWork_60 : decode cX6_countOfWork 60 = .ok (.invokevirtual 37, 3) := by decide +kernel
theorem dX6_countOfWork_63 : decode cX6_countOfWork 63 = .ok (.ireturn, 1) := by decide +kernel
theorem dX6_countOfWork_64 : decode cX6_countOfWork 64 = .ok (.aload_n 0, 1) := by decide +kernel
theorem dX6_countOfWork_65 : decode cX6_countOfWork 65 = .ok (.getfield 10, 3) := by decide +kernel
theorem dX6_countOfWork_68 : decode cX6_countOfWork 68 = .ok (.invokevirtual 210, 3) := by decide +kernel
theorem dX6_countOfWork_71 : decode cX6_countOfWork 71 = .ok (.ireturn, 1) := by decide +kernel
theorem dX6_countOfWork_72 : decode cX6_countOfWork 72 = .ok (.aload_n 0, 1) := by decide +kernel
theorem dX6_countOfWork_73 : decode cX6_countOfWork 73 = .ok (.getfield 10, 3) := by decide +kernel
theorem dX6_countOfWork_76 : decode cX6_countOfWork 76 = .ok (.invokevirtual 37, 3) := by decide +kernel
theorem dX6_countOfWork_79 : decode cX6_countOfWork 79 = .ok (.ifCond .le 13, 3) := by decide +kernel
theorem dX6_countOfWork_82 : decode cX6_countOfWork 82 = .ok (.aload_n 0, 1) := by decide +kernel
theorem dX6_countOfWork_83 : decode cX6_countOfWork 83 = .ok (.getfield 10, 3) := by decide +kernel
theorem dX6_countOfWork_86 : decode cX6_countOfWork 86 = .ok (.invokevirtual 233, 3) := by decide +kernel
theorem dX6_countOfWork_89 : decode cX6_countOfWork 89 = .ok (.goto 5, 3) := by decide +kernel
theorem dX6_countOfWork_92 : decode cX6_countOfWork 92 = .ok (.bipush (-4), 2) := by decide +kernel
theorem dX6_countOfWork_94 : decode cX6_countOfWork 94 = .ok (.ireturn, 1) := by decide +kernel
theorem dX6_countOfWork_95 : decode cX6_countOfWork 95 = .ok (.aload_n 0, 1) := by decide +kernel
theorem dX6_countOfWork_96 : decode cX6_countOfWork 96 = .ok (.getfield 10, 3) := by decide +kernel
theorem dX6_countOfWork_99 : decode cX6_countOfWork 99 = .ok (.getfield 125, 3) := by decide +kernel
theorem dX6_countOfWork_102 : decode cX6_countOfWork 102 = .ok (.getfield 129, 3) := by decide +kernel
theorem dX6_countOfWork_105 : decode cX6_countOfWork 105 = .ok (.ireturn, 1) := by decide +kernel
theorem dX6_countOfWork_106 : decode cX6_countOfWork 106 = .ok (.aload_n 0, 1) := by decide +kernel
theorem dX6_countOfWork_107 : decode cX6_countOfWork 107 = .ok (.getfield 10, 3) := by decide +kernel
theorem dX6_countOfWork_110 : decode cX6_countOfWork 110 = .ok (.getfield 125, 3) := by decide +kernel
theorem dX6_countOfWork_113 : decode cX6_countOfWork 113 = .ok (.invokevirtual 236, 3) := by decide +kernel
theorem dX6_countOfWork_116 : decode cX6_countOfWork 116 = .ok (.ireturn, 1) := by decide +kernel
theorem dX6_countOfWork_117 : decode cX6_countOfWork 117 = .ok (.aload_n 0, 1) := by decide +kernel
theorem dX6_countOfWork_118 : decode cX6_countOfWork 118 = .ok (.getfield 10, 3) := by decide +kernel
theorem dX6_countOfWork_121 : decode cX6_countOfWork 121 = .ok (.getfield 125, 3) := by decide +kernel
theorem dX6_countOfWork_124 : decode cX6_countOfWork 124 = .ok (.getfield 239, 3) := by decide +kernel
theorem dX6_countOfWork_127 : decode cX6_countOfWork 127 = .ok (.ireturn, 1) := by decide +kernel
theorem dX6_countOfWork_128 : decode cX6_countOfWork 128 = .ok (.aload_n 0, 1) := by decide +kernel
theorem dX6_countOfWork_129 : decode cX6_countOfWork 129 = .ok (.getfield 10, 3) := by decide +kernel
theorem dX6_countOfWork_132 : decode cX6_countOfWork 132 = .ok (.getfield 242, 3) := by decide +kernel
theorem dX6_countOfWork_135 : decode cX6_countOfWork 135 = .ok (.ireturn, 1) := by decide +kernel
theorem dX6_countOfWork_136 : decode cX6_countOfWork 136 = .ok (.aload_n 0, 1) := by decide +kernel
theorem dX6_countOfWork_137 : decode cX6_countOfWork 137 = .ok (.getfield 22, 3) := by decide +kernel
theorem dX6_countOfWork_140 : decode cX6_countOfWork 140 = .ok (.invokevirtual 119, 3) := by decide +kernel
theorem dX6_countOfWork_143 : decode cX6_countOfWork 143 = .ok (.ireturn, 1) := by decide +kernel
theorem dX6_countOfWork_144 : decode cX6_countOfWork 144 = .ok (.aload_n 0, 1) := by decide +kernel
theorem dX6_countOfWork_145 : decode cX6_countOfWork 145 = .ok (.getfield 29, 3) := by decide +kernel
theorem dX6_countOfWork_148 : decode cX6_countOfWork 148 = .ok (.getfield 213, 3) := by decide +kernel
theorem dX6_countOfWork_151 : decode cX6_countOfWork 151 = .ok (.ireturn, 1) := by decide +kernel
theorem dX6_countOfWork_152 : decode cX6_countOfWork 152 = .ok (.aload_n 0, 1) := by decide +kernel
theorem dX6_countOfWork_153 : decode cX6_countOfWork 153 = .ok (.getfield 10, 3) := by decide +kernel
theorem dX6_countOfWork_156 : decode cX6_countOfWork 156 = .ok (.getfield 125, 3) := by decide +kernel
theorem dX6_countOfWork_159 : decode cX6_countOfWork 159 = .ok (.getfield 162, 3) := by decide +kernel
theorem dX6_countOfWork_162 : decode cX6_countOfWork 162 = .ok (.ireturn, 1) := by decide +kernel
theorem dX6_countOfWork_163 : decode cX6_countOfWork 163 = .ok (.aload_n 0, 1) := by decide +kernel
theorem dX6_countOfWork_164 : decode cX6_countOfWork 164 = .ok (.getfield 10, 3) := by decide +kernel
theorem dX6_countOfWork_167 : decode cX6_countOfWork 167 = .ok (.getfield 125, 3) := by decide +kernel
theorem dX6_countOfWork_170 : decode cX6_countOfWork 170 = .ok (.getfield 172, 3) := by decide +kernel
theorem dX6_countOfWork_173 : decode cX6_countOfWork 173 = .ok (.ireturn, 1) := by decide +kernel
theorem dX6_account_0 : decode cX6_account 0 = .ok (.iload_n 1, 1) := by decide +kernel
theorem dX6_account_1 : decode cX6_account 1 = .ok (.tableswitch 124 0 5 #[39, 50, 61, 83, 102, 113], 39) := by decide +kernel
theorem dX6_account_40 : decode cX6_account 40 = .ok (.aload_n 0, 1) := by decide +kernel
theorem dX6_account_41 : decode cX6_account 41 = .ok (.getfield 10, 3) := by decide +kernel
theorem dX6_account_44 : decode cX6_account 44 = .ok (.getfield 125, 3) := by decide +kernel
theorem dX6_account_47 : decode cX6_account 47 = .ok (.invokevirtual 245, 3) := by decide +kernel
theorem dX6_account_50 : decode cX6_account 50 = .ok (.ireturn, 1) := by decide +kernel
theorem dX6_account_51 : decode cX6_account 51 = .ok (.aload_n 0, 1) := by decide +kernel
theorem dX6_account_52 : decode cX6_account 52 = .ok (.getfield 10, 3) := by decide +kernel
theorem dX6_account_55 : decode cX6_account 55 = .ok (.getfield 125, 3) := by decide +kernel
theorem dX6_account_58 : decode cX6_account 58 = .ok (.invokevirtual 248, 3) := by decide +kernel
theorem dX6_account_61 : decode cX6_account 61 = .ok (.ireturn, 1) := by decide +kernel
theorem dX6_account_62 : decode cX6_account 62 = .ok (.aload_n 0, 1) := by decide +kernel
theorem dX6_account_63 : decode cX6_account 63 = .ok (.getfield 10, 3) := by decide +kernel
theorem dX6_account_66 : decode cX6_account 66 = .ok (.getfield 125, 3) := by decide +kernel
theorem dX6_account_69 : decode cX6_account 69 = .ok (.invokevirtual 236, 3) := by decide +kernel
theorem dX6_account_72 : decode cX6_account 72 = .ok (.aload_n 0, 1) := by decide +kernel
theorem dX6_account_73 : decode cX6_account 73 = .ok (.getfield 10, 3) := by decide +kernel
theorem dX6_account_76 : decode cX6_account 76 = .ok (.getfield 125, 3) := by decide +kernel
theorem dX6_account_79 : decode cX6_account 79 = .ok (.getfield 162, 3) := by decide +kernel
theorem dX6_account_82 : decode cX6_account 82 = .ok (.imul, 1) := by decide +kernel
theorem dX6_account_83 : decode cX6_account 83 = .ok (.ireturn, 1) := by decide +kernel
theorem dX6_account_84 : decode cX6_account 84 = .ok (.aload_n 0, 1) := by decide +kernel
theorem dX6_account_85 : decode cX6_account 85 = .ok (.getfield 10, 3) := by decide +kernel
theorem dX6_account_88 : decode cX6_account 88 = .ok (.invokevirtual 37, 3) := by decide +kernel
theorem dX6_account_91 : decode cX6_account 91 = .ok (.aload_n 0, 1) := by decide +kernel
theorem dX6_account_92 : decode cX6_account 92 = .ok (.getfield 10, 3) := by decide +kernel
theorem dX6_account_95 : decode cX6_account 95 = .ok (.getfield 125, 3) := by decide +kernel
theorem dX6_account_98 : decode cX6_account 98 = .ok (.getfield 162, 3) := by decide +kernel
theorem dX6_account_101 : decode cX6_account 101 = .ok (.imul, 1) := by decide +kernel
theorem dX6_account_102 : decode cX6_account 102 = .ok (.ireturn, 1) := by decide +kernel
theorem dX6_account_103 : decode cX6_account 103 = .ok (.aload_n 0, 1) := by decide +kernel
theorem dX6_account_104 : decode cX6_account 104 = .ok (.getfield 10, 3) := by decide +kernel
theorem dX6_account_107 : decode cX6_account 107 = .ok (.getfield 125, 3) := by decide +kernel
theorem dX6_account_110 : decode cX6_account 110 = .ok (.getfield 251, 3) := by decide +kernel
theorem dX6_account_113 : decode cX6_account 113 = .ok (.ireturn, 1) := by decide +kernel
theorem dX6_account_114 : decode cX6_account 114 = .ok (.aload_n 0, 1) := by decide +kernel
theorem dX6_account_115 : decode cX6_account 115 = .ok (.getfield 10, 3) := by decide +kernel
theorem dX6_account_118 : decode cX6_account 118 = .ok (.getfield 125, 3) := by decide +kernel
theorem dX6_account_121 : decode cX6_account 121 = .ok (.getfield 254, 3) := by decide +kernel
theorem dX6_account_124 : decode cX6_account 124 = .ok (.ireturn, 1) := by decide +kernel
theorem dX6_account_125 : decode cX6_account 125 = .ok (.aload_n 0, 1) := by decide +kernel
theorem dX6_account_126 : decode cX6_account 126 = .ok (.getfield 10, 3) := by decide +kernel
theorem dX6_account_129 : decode cX6_account 129 = .ok (.getfield 125, 3) := by decide +kernel
theorem dX6_account_132 : decode cX6_account 132 = .ok (.getfield 257, 3) := by decide +kernel
theorem dX6_account_135 : decode cX6_account 135 = .ok (.ireturn, 1) := by decide +kernel
theorem dJ9_abs_0f7a4_0 : decode cJ9_abs_0f7a4 0 = .ok (.iload_n 0, 1) := by decide +kernel
theorem dJ9_abs_0f7a4_1 : decode cJ9_abs_0f7a4 1 = .ok (.ifCond .ge 8, 3) := by decide +kernel
theorem dJ9_abs_0f7a4_4 : decode cJ9_abs_0f7a4 4 = .ok (.iload_n 0, 1) := by decide +kernel
theorem dJ9_abs_0f7a4_5 : decode cJ9_abs_0f7a4 5 = .ok (.ineg, 1) := by decide +kernel
theorem dJ9_abs_0f7a4_6 : decode cJ9_abs_0f7a4 6 = .ok (.goto 4, 3) := by decide +kernel
theorem dJ9_abs_0f7a4_9 : decode cJ9_abs_0f7a4 9 = .ok (.iload_n 0, 1) := by decide +kernel
theorem dJ9_abs_0f7a4_10 : decode cJ9_abs_0f7a4 10 = .ok (.ireturn, 1) := by decide +kernel
theorem dJ9_max_7cf53_0 : decode cJ9_max_7cf53 0 = .ok (.iload_n 0, 1) := by decide +kernel
theorem dJ9_max_7cf53_1 : decode cJ9_max_7cf53 1 = .ok (.iload_n 1, 1) := by decide +kernel
theorem dJ9_max_7cf53_2 : decode cJ9_max_7cf53 2 = .ok (.if_icmp .lt 7, 3) := by decide +kernel
theorem dJ9_max_7cf53_5 : decode cJ9_max_7cf53 5 = .ok (.iload_n 0, 1) := by decide +kernel
theorem dJ9_max_7cf53_6 : decode cJ9_max_7cf53 6 = .ok (.goto 4, 3) := by decide +kernel
theorem dJ9_max_7cf53_9 : decode cJ9_max_7cf53 9 = .ok (.iload_n 1, 1) := by decide +kernel
theorem dJ9_max_7cf53_10 : decode cJ9_max_7cf53 10 = .ok (.ireturn, 1) := by decide +kernel
theorem dJ9_min_7cf53_0 : decode cJ9_min_7cf53 0 = .ok (.iload_n 0, 1) := by decide +kernel
theorem dJ9_min_7cf53_1 : decode cJ9_min_7cf53 1 = .ok (.iload_n 1, 1) := by decide +kernel
theorem dJ9_min_7cf53_2 : decode cJ9_min_7cf53 2 = .ok (.if_icmp .gt 7, 3) := by decide +kernel
theorem dJ9_min_7cf53_5 : decode cJ9_min_7cf53 5 = .ok (.iload_n 0, 1) := by decide +kernel
theorem dJ9_min_7cf53_6 : decode cJ9_min_7cf53 6 = .ok (.goto 4, 3) := by decide +kernel
theorem dJ9_min_7cf53_9 : decode cJ9_min_7cf53 9 = .ok (.iload_n 1, 1) := by decide +kernel
theorem dJ9_min_7cf53_10 : decode cJ9_min_7cf53 10 = .ok (.ireturn, 1) := by decide +kernel
theorem dJ7_fill_53178_0 : decode cJ7_fill_53178 0 = .ok (.iconst 0, 1) := by decide +kernel
theorem dJ7_fill_53178_1 : decode cJ7_fill_53178 1 = .ok (.istore_n 2, 1) := by decide +kernel
theorem dJ7_fill_53178_2 : decode cJ7_fill_53178 2 = .ok (.aload_n 0, 1) := by decide +kernel
theorem dJ7_fill_53178_3 : decode cJ7_fill_53178 3 = .ok (.arraylength, 1) := by decide +kernel
theorem dJ7_fill_53178_4 : decode cJ7_fill_53178 4 = .ok (.istore_n 3, 1) := by decide +kernel
theorem dJ7_fill_53178_5 : decode cJ7_fill_53178 5 = .ok (.iload_n 2, 1) := by decide +kernel
theorem dJ7_fill_53178_6 : decode cJ7_fill_53178 6 = .ok (.iload_n 3, 1) := by decide +kernel
theorem dJ7_fill_53178_7 : decode cJ7_fill_53178 7 = .ok (.if_icmp .ge 13, 3) := by decide +kernel
theorem dJ7_fill_53178_10 : decode cJ7_fill_53178 10 = .ok (.aload_n 0, 1) := by decide +kernel
theorem dJ7_fill_53178_11 : decode cJ7_fill_53178 11 = .ok (.iload_n 2, 1) := by decide +kernel
theorem dJ7_fill_53178_12 : decode cJ7_fill_53178 12 = .ok (.iload_n 1, 1) := by decide +kernel
theorem dJ7_fill_53178_13 : decode cJ7_fill_53178 13 = .ok (.iastore, 1) := by decide +kernel
theorem dJ7_fill_53178_14 : decode cJ7_fill_53178 14 = .ok (.iinc 2 1, 3) := by decide +kernel
theorem dJ7_fill_53178_17 : decode cJ7_fill_53178 17 = .ok (.goto (-12), 3) := by decide +kernel
theorem dJ7_fill_53178_20 : decode cJ7_fill_53178 20 = .ok (.return_, 1) := by decide +kernel
end
section
theorem dX7_init_0 : decode cX7_init 0 = .ok (.aload_n 0, 1) := by decide +kernel
theorem dX7_init_1 : decode cX7_init 1 = .ok (.invokespecial 1, 3) := by decide +kernel
theorem dX7_init_4 : decode cX7_init 4 = .ok (.aload_n 0, 1) := by decide +kernel
theorem dX7_init_5 : decode cX7_init 5 = .ok (.sipush 518, 3) := by decide +kernel
theorem dX7_init_8 : decode cX7_init 8 = .ok (.newarray .int, 2) := by decide +kernel
theorem dX7_init_10 : decode cX7_init 10 = .ok (.putfield 7, 3) := by decide +kernel
theorem dX7_init_13 : decode cX7_init 13 = .ok (.aload_n 0, 1) := by decide +kernel
theorem dX7_init_14 : decode cX7_init 14 = .ok (.sipush 518, 3) := by decide +kernel
theorem dX7_init_17 : decode cX7_init 17 = .ok (.newarray .int, 2) := by decide +kernel
theorem dX7_init_19 : decode cX7_init 19 = .ok (.putfield 13, 3) := by decide +kernel
theorem dX7_init_22 : decode cX7_init 22 = .ok (.aload_n 0, 1) := by decide +kernel
theorem dX7_init_23 : decode cX7_init 23 = .ok (.sipush 2590, 3) := by decide +kernel
theorem dX7_init_26 : decode cX7_init 26 = .ok (.newarray .int, 2) := by decide +kernel
theorem dX7_init_28 : decode cX7_init 28 = .ok (.putfield 16, 3) := by decide +kernel
theorem dX7_init_31 : decode cX7_init 31 = .ok (.aload_n 0, 1) := by decide +kernel
theorem dX7_init_32 : decode cX7_init 32 = .ok (.bipush 80, 2) := by decide +kernel
theorem dX7_init_34 : decode cX7_init 34 = .ok (.newarray .int, 2) := by decide +kernel
theorem dX7_init_36 : decode cX7_init 36 = .ok (.putfield 19, 3) := by decide +kernel
theorem dX7_init_39 : decode cX7_init 39 = .ok (.aload_n 0, 1) := by decide +kernel
theorem dX7_init_40 : decode cX7_init 40 = .ok (.bipush 8, 2) := by decide +kernel
theorem dX7_init_42 : decode cX7_init 42 = .ok (.newarray .int, 2) := by decide +kernel
theorem dX7_init_44 : decode cX7_init 44 = .ok (.putfield 22, 3) := by decide +kernel
theorem dX7_init_47 : decode cX7_init 47 = .ok (.aload_n 0, 1) := by decide +kernel
theorem dX7_init_48 : decode cX7_init 48 = .ok (.getfield 7, 3) := by decide +kernel
theorem dX7_init_51 : decode cX7_init 51 = .ok (.iconst 2, 1) := by decide +kernel
theorem dX7_init_52 : decode cX7_init 52 = .ok (.bipush 20, 2) := by decide +kernel
theorem dX7_init_54 : decode cX7_init 54 = .ok (.iastore, 1) := by decide +kernel
theorem dX7_init_55 : decode cX7_init 55 = .ok (.aload_n 0, 1) := by decide +kernel
theorem dX7_init_56 : decode cX7_init 56 = .ok (.getfield 7, 3) := by decide +kernel
theorem dX7_init_59 : decode cX7_init 59 = .ok (.iconst 3, 1) := by decide +kernel
theorem dX7_init_60 : decode cX7_init 60 = .ok (.iconst 2, 1) := by decide +kernel
theorem dX7_init_61 : decode cX7_init 61 = .ok (.iastore, 1) := by decide +kernel
theorem dX7_init_62 : decode cX7_init 62 = .ok (.aload_n 0, 1) := by decide +kernel
theorem dX7_init_63 : decode cX7_init 63 = .ok (.getfield 7, 3) := by decide +kernel
theorem dX7_init_66 : decode cX7_init 66 = .ok (.iconst 4, 1) := by decide +kernel
theorem dX7_init_67 : decode cX7_init 67 = .ok (.iconst 1, 1) := by decide +kernel
theorem dX7_init_68 : decode cX7_init 68 = .ok (.iastore, 1) := by decide +kernel
theorem dX7_init_69 : decode cX7_init 69 = .ok (.aload_n 0, 1) := by decide +kernel
theorem dX7_init_70 : decode cX7_init 70 = .ok (.bipush 6, 2) := by decide +kernel
theorem dX7_init_72 : decode cX7_init 72 = .ok (.iconst 4, 1) := by decide +kernel
theorem dX7_init_73 : decode cX7_init 73 = .ok (.invokevirtual 25, 3) := by decide +kernel
theorem dX7_init_76 : decode cX7_init 76 = .ok (.return_, 1) := by decide +kernel
theorem dX7_in_0 : decode cX7_in 0 = .ok (.iload_n 0, 1) := by decide +kernel
theorem dX7_in_1 : decode cX7_in 1 = .ok (.iload_n 1, 1) := by decide +kernel
theorem dX7_in_2 : decode cX7_in 2 = .ok (.if_icmp .lt 12, 3) := by decide +kernel
theorem dX7_in_5 : decode cX7_in 5 = .ok (.iload_n 0, 1) := by decide +kernel
theorem dX7_in_6 : decode cX7_in 6 = .ok (.iload_n 2, 1) := by decide +kernel
theorem dX7_in_7 : decode cX7_in 7 = .ok (.if_icmp .gt 7, 3) := by decide +kernel
theorem dX7_in_10 : decode cX7_in 10 = .ok (.iconst 1, 1) := by decide +kernel
theorem dX7_in_11 : decode cX7_in 11 = .ok (.goto 4, 3) := by decide +kernel
theorem dX7_in_14 : decode cX7_in 14 = .ok (.iconst 0, 1) := by decide +kernel
theorem dX7_in_15 : decode cX7_in 15 = .ok (.ireturn, 1) := by decide +kernel
theorem dX7_lesser_0 : decode cX7_lesser 0 = .ok (.iload_n 0, 1) := by decide +kernel
theorem dX7_lesser_1 : decode cX7_lesser 1 = .ok (.iload_n 1, 1) := by decide +kernel
theorem dX7_lesser_2 : decode cX7_lesser 2 = .ok (.if_icmp .ge 7, 3) := by decide +kernel
theorem dX7_lesser_5 : decode cX7_lesser 5 = .ok (.iload_n 0, 1) := by decide +kernel
theorem dX7_lesser_6 : decode cX7_lesser 6 = .ok (.goto 4, 3) := by decide +kernel
theorem dX7_lesser_9 : decode cX7_lesser 9 = .ok (.iload_n 1, 1) := by decide +kernel
theorem dX7_lesser_10 : decode cX7_lesser 10 = .ok (.ireturn, 1) := by decide +kernel
theorem dX7_size_0 : decode cX7_size 0 = .ok (.iload_n 0, 1) := by decide +kernel
theorem dX7_size_1 : decode cX7_size 1 = .ok (.ifCond .ge 8, 3) := by decide +kernel
theorem dX7_size_4 : decode cX7_size 4 = .ok (.iload_n 0, 1) := by decide +kernel
theorem dX7_size_5 : decode cX7_size 5 = .ok (.ineg, 1) := by decide +kernel
theorem dX7_size_6 : decode cX7_size 6 = .ok (.goto 4, 3) := by decide +kernel
theorem dX7_size_9 : decode cX7_size 9 = .ok (.iload_n 0, 1) := by decide +kernel
theorem dX7_size_10 : decode cX7_size 10 = .ok (.ireturn, 1) := by decide +kernel
theorem dX7_bring_0 : decode cX7_bring 0 = .ok (.iconst 0, 1) := by decide +kernel
theorem dX7_bring_1 : decode cX7_bring 1 = .ok (.istore 4, 2) := by decide +kernel
theorem dX7_bring_3 : decode cX7_bring 3 = .ok (.iload 4, 2) := by decide +kernel
theorem dX7_bring_5 : decode cX7_bring 5 = .ok (.sipush 518, 3) := by decide +kernel
theorem dX7_bring_8 : decode cX7_bring 8 = .ok (.if_icmp .ge 21, 3) := by decide +kernel
theorem dX7_bring_11 : decode cX7_bring 11 = .ok (.aload_n 2, 1) := by decide +kernel
theorem dX7_bring_12 : decode cX7_bring 12 = .ok (.iload_n 3, 1) := by decide +kernel
theorem dX7_bring_13 : decode cX7_bring 13 = .ok (.iload 4, 2) := by decide +kernel
theorem dX7_bring_15 : decode cX7_bring 15 = .ok (.iadd, 1) := by decide +kernel
theorem dX7_bring_16 : decode cX7_bring 16 = .ok (.aload_n 0, 1) := by decide +kernel
theorem dX7_bring_17 : decode cX7_bring 17 = .ok (.iload_n 1, 1) := by decide +kernel
theorem dX7_bring_18 : decode cX7_bring 18 = .ok (.iload 4, 2) := by decide +kernel
theorem dX7_bring_20 : decode cX7_bring 20 = .ok (.iadd, 1) := by decide +kernel
theorem dX7_bring_21 : decode cX7_bring 21 = .ok (.iaload, 1) := by decide +kernel
theorem dX7_bring_22 : decode cX7_bring 22 = .ok (.iastore, 1) := by decide +kernel
theorem dX7_bring_23 : decode cX7_bring 23 = .ok (.iinc 4 1, 3) := by decide +kernel
theorem dX7_bring_26 : decode cX7_bring 26 = .ok (.goto (-23), 3) := by decide +kernel
theorem dX7_bring_29 : decode cX7_bring 29 = .ok (.return_, 1) := by decide +kernel
theorem dX7_keep_0 : decode cX7_keep 0 = .ok (.aload_n 0, 1) := by decide +kernel
theorem dX7_keep_1 : decode cX7_keep 1 = .ok (.getfield 29, 3) := by decide +kernel
theorem dX7_keep_4 : decode cX7_keep 4 = .ok (.iconst 5, 1) := by decide +kernel
theorem dX7_keep_5 : decode cX7_keep 5 = .ok (.if_icmp .ne 44, 3) := by decide +kernel
theorem dX7_keep_8 : decode cX7_keep 8 = .ok (.iconst 0, 1) := by decide +kernel
theorem dX7_keep_9 : decode cX7_keep 9 = .ok (.istore_n 1, 1) := by decide +kernel
theorem dX7_keep_10 : decode cX7_keep 10 = .ok (.iload_n 1, 1) := by decide +kernel
theorem dX7_keep_11 : decode cX7_keep 11 = .ok (.sipush 2072, 3) := by decide +kernel
theorem dX7_keep_14 : decode cX7_keep 14 = .ok (.if_icmp .ge 25, 3) := by decide +kernel
theorem dX7_keep_17 : decode cX7_keep 17 = .ok (.aload_n 0, 1) := by decide +kernel
theorem dX7_keep_18 : decode cX7_keep 18 = .ok (.getfield 16, 3) := by decide +kernel
theorem dX7_keep_21 : decode cX7_keep 21 = .ok (.iload_n 1, 1) := by decide +kernel
theorem dX7_keep_22 : decode cX7_keep 22 = .ok (.aload_n 0, 1) := by decide +kernel
theorem dX7_keep_23 : decode cX7_keep 23 = .ok (.getfield 16, 3) := by decide +kernel
theorem dX7_keep_26 : decode cX7_keep 26 = .ok (.iload_n 1, 1) := by decide +kernel
theorem dX7_keep_27 : decode cX7_keep 27 = .ok (.sipush 518, 3) := by decide +kernel
theorem dX7_keep_30 : decode cX7_keep 30 = .ok (.iadd, 1) := by decide +kernel
theorem dX7_keep_31 : decode cX7_keep 31 = .ok (.iaload, 1) := by decide +kernel
theorem dX7_keep_32 : decode cX7_keep 32 = .ok (.iastore, 1) := by decide +kernel
theorem dX7_keep_33 : decode cX7_keep 33 = .ok (.iinc 1 1, 3) := by decide +kernel
theorem dX7_keep_36 : decode cX7_keep 36 = .ok (.goto (-26), 3) := by decide +kernel
theorem dX7_keep_39 : decode cX7_keep 39 = .ok (.aload_n 0, 1) := by decide +kernel
theorem dX7_keep_40 : decode cX7_keep 40 = .ok (.dup, 1) := by decide +kernel
theorem dX7_keep_41 : decode cX7_keep 41 = .ok (.getfield 29, 3) := by decide +kernel
theorem dX7_keep_44 : decode cX7_keep 44 = .ok (.iconst 1, 1) := by decide +kernel
theorem dX7_keep_45 : decode cX7_keep 45 = .ok (.isub, 1) := by decide +kernel
theorem dX7_keep_46 : decode cX7_keep 46 = .ok (.putfield 29, 3) := by decide +kernel
theorem dX7_keep_49 : decode cX7_keep 49 = .ok (.aload_n 0, 1) := by decide +kernel
theorem dX7_keep_50 : decode cX7_keep 50 = .ok (.getfield 7, 3) := by decide +kernel
theorem dX7_keep_53 : decode cX7_keep 53 = .ok (.iconst 0, 1) := by decide +kernel
theorem dX7_keep_54 : decode cX7_keep 54 = .ok (.aload_n 0, 1) := by decide +kernel
theorem dX7_keep_55 : decode cX7_keep 55 = .ok (.getfield 16, 3) := by decide +kernel
theorem dX7_keep_58 : decode cX7_keep 58 = .ok (.sipush 518, 3) := by decide +kernel
theorem dX7_keep_61 : decode cX7_keep 61 = .ok (.aload_n 0, 1) := by decide +kernel
theorem dX7_keep_62 : decode cX7_keep 62 = .ok (.getfield 29, 3) := by decide +kernel
theorem dX7_keep_65 : decode cX7_keep 65 = .ok (.imul, 1) := by decide +kernel
theorem dX7_keep_66 : decode cX7_keep 66 = .ok (.invokestatic 33, 3) := by decide +kernel
theorem dX7_keep_69 : decode cX7_keep 69 = .ok (.aload_n 0, 1) := by decide +kernel
theorem dX7_keep_70 : decode cX7_keep 70 = .ok (.dup, 1) := by decide +kernel
theorem dX7_keep_71 : decode cX7_keep 71 = .ok (.getfield 29, 3) := by decide +kernel
theorem dX7_keep_74 : decode cX7_keep 74 = .ok (.iconst 1, 1) := by decide +kernel
theorem dX7_keep_75 : decode cX7_keep 75 = .ok (.iadd, 1) := by decide +kernel
theorem dX7_keep_76 : decode cX7_keep 76 = .ok (.putfield 29, 3) := by decide +kernel
theorem dX7_keep_79 : decode cX7_keep 79 = .ok (.return_, 1) := by decide +kernel
theorem dX7_beginWith_0 : decode cX7_beginWith 0 = .ok (.aload_n 0, 1) := by decide +kernel
theorem dX7_beginWith_1 : decode cX7_beginWith 1 = .ok (.getfield 7, 3) := by decide +kernel
theorem dX7_beginWith_4 : decode cX7_beginWith 4 = .ok (.iconst 0, 1) := by decide +kernel
theorem dX7_beginWith_5 : decode cX7_beginWith 5 = .ok (.iload_n 1, 1) := by decide +kernel
theorem dX7_beginWith_6 : decode cX7_beginWith 6 = .ok (.iastore, 1) := by decide +kernel
theorem dX7_beginWith_7 : decode cX7_beginWith 7 = .ok (.aload_n 0, 1) := by decide +kernel
theorem dX7_beginWith_8 : decode cX7_beginWith 8 = .ok (.getfield 7, 3) := by decide +kernel
theorem dX7_beginWith_11 : decode cX7_beginWith 11 = .ok (.iconst 1, 1) := by decide +kernel
theorem dX7_beginWith_12 : decode cX7_beginWith 12 = .ok (.iload_n 2, 1) := by decide +kernel
theorem dX7_beginWith_13 : decode cX7_beginWith 13 = .ok (.iastore, 1) := by decide +kernel
theorem dX7_beginWith_14 : decode cX7_beginWith 14 = .ok (.iconst 0, 1) := by decide +kernel
theorem dX7_beginWith_15 : decode cX7_beginWith 15 = .ok (.istore_n 3, 1) := by decide +kernel
theorem dX7_beginWith_16 : decode cX7_beginWith 16 = .ok (.iload_n 3, 1) := by decide +kernel
theorem dX7_beginWith_17 : decode cX7_beginWith 17 = .ok (.sipush 144, 3) := by decide +kernel
theorem dX7_beginWith_20 : decode cX7_beginWith 20 = .ok (.if_icmp .ge 31, 3) := by decide +kernel
theorem dX7_beginWith_23 : decode cX7_beginWith 23 = .ok (.aload_n 0, 1) := by decide +kernel
theorem dX7_beginWith_24 : decode cX7_beginWith 24 = .ok (.getfield 7, 3) := by decide +kernel
theorem dX7_beginWith_27 : decode cX7_beginWith 27 = .ok (.bipush 20, 2) := by decide +kernel
theorem dX7_beginWith_29 : decode cX7_beginWith 29 = .ok (.iload_n 3, 1) := by decide +kernel
theorem dX7_beginWith_30 : decode cX7_beginWith 30 = .ok (.iadd, 1) := by decide +kernel
theorem dX7_beginWith_31 : decode cX7_beginWith 31 = .ok (.bipush 50, 2) := by decide +kernel
theorem dX7_beginWith_33 : decode cX7_beginWith 33 = .ok (.iastore, 1) := by decide +kernel
theorem dX7_beginWith_34 : decode cX7_beginWith 34 = .ok (.aload_n 0, 1) := by decide +kernel
theorem dX7_beginWith_35 : decode cX7_beginWith 35 = .ok (.getfield 7, 3) := by decide +kernel
theorem dX7_beginWith_38 : decode cX7_beginWith 38 = .ok (.sipush 164, 3) := by decide +kernel
theorem dX7_beginWith_41 : decode cX7_beginWith 41 = .ok (.iload_n 3, 1) := by decide +kernel
theorem dX7_beginWith_42 : decode cX7_beginWith 42 = .ok (.iadd, 1) := by decide +kernel
theorem dX7_beginWith_43 : decode cX7_beginWith 43 = .ok (.iconst (-1), 1) := by decide +kernel
theorem dX7_beginWith_44 : decode cX7_beginWith 44 = .ok (.iastore, 1) := by decide +kernel
theorem dX7_beginWith_45 : decode cX7_beginWith 45 = .ok (.iinc 3 1, 3) := by decide +kernel
theorem dX7_beginWith_48 : decode cX7_beginWith 48 = .ok (.goto (-32), 3) := by decide +kernel
theorem dX7_beginWith_51 : decode cX7_beginWith 51 = .ok (.return_, 1) := by decide +kernel
theorem dX7_isCell_0 : decode cX7_isCell 0 = .ok (.iload_n 1, 1) := by decide +kernel
theorem dX7_isCell_1 : decode cX7_isCell 1 = .ok (.iconst 0, 1) := by decide +kernel
theorem dX7_isCell_2 : decode cX7_isCell 2 = .ok (.aload_n 0, 1) := by decide +kernel
theorem dX7_isCell_3 : decode cX7_isCell 3 = .ok (.getfield 7, 3) := by decide +kernel
theorem dX7_isCell_6 : decode cX7_isCell 6 = .ok (.iconst 0, 1) := by decide +kernel
theorem dX7_isCell_7 : decode cX7_isCell 7 = .ok (.iaload, 1) := by decide +kernel
theorem dX7_isCell_8 : decode cX7_isCell 8 = .ok (.iconst 1, 1) := by decide +kernel
theorem dX7_isCell_9 : decode cX7_isCell 9 = .ok (.isub, 1) := by decide +kernel
theorem dX7_isCell_10 : decode cX7_isCell 10 = .ok (.invokestatic 37, 3) := by decide +kernel
theorem dX7_isCell_13 : decode cX7_isCell 13 = .ok (.ifCond .eq 23, 3) := by decide +kernel
theorem dX7_isCell_16 : decode cX7_isCell 16 = .ok (.iload_n 2, 1) := by decide +kernel
theorem dX7_isCell_17 : decode cX7_isCell 17 = .ok (.iconst 0, 1) := by decide +kernel
theorem dX7_isCell_18 : decode cX7_isCell 18 = .ok (.aload_n 0, 1) := by decide +kernel
theorem dX7_isCell_19 : decode cX7_isCell 19 = .ok (.getfield 7, 3) := by decide +kernel
theorem dX7_isCell_22 : decode cX7_isCell 22 = .ok (.iconst 1, 1) := by decide +kernel
theorem dX7_isCell_23 : decode cX7_isCell 23 = .ok (.iaload, 1) := by decide +kernel
theorem dX7_isCell_24 : decode cX7_isCell 24 = .ok (.iconst 1, 1) := by decide +kernel
theorem dX7_isCell_25 : decode cX7_isCell 25 = .ok (.isub, 1) := by decide +kernel
theorem dX7_isCell_26 : decode cX7_isCell 26 = .ok (.invokestatic 37, 3) := by decide +kernel
theorem dX7_isCell_29 : decode cX7_isCell 29 = .ok (.ifCond .eq 7, 3) := by decide +kernel
theorem dX7_isCell_32 : decode cX7_isCell 32 = .ok (.iconst 1, 1) := by decide +kernel
theorem dX7_isCell_33 : decode cX7_isCell 33 = .ok (.goto 4, 3) := by decide +kernel
theorem dX7_isCell_36 : decode cX7_isCell 36 = .ok (.iconst 0, 1) := by decide +kernel
theorem dX7_isCell_37 : decode cX7_isCell 37 = .ok (.ireturn, 1) := by decide +kernel
theorem dX7_cells_0 : decode cX7_cells 0 = .ok (.aload_n 0, 1) := by decide +kernel
theorem dX7_cells_1 : decode cX7_cells 1 = .ok (.getfield 7, 3) := by decide +kernel
theorem dX7_cells_4 : decode cX7_cells 4 = .ok (.iconst 0, 1) := by decide +kernel
theorem dX7_cells_5 : decode cX7_cells 5 = .ok (.iaload, 1) := by decide +kernel
theorem dX7_cells_6 : decode cX7_cells 6 = .ok (.aload_n 0, 1) := by decide +kernel
theorem dX7_cells_7 : decode cX7_cells 7 = .ok (.getfield 7, 3) := by decide +kernel
theorem dX7_cells_10 : decode cX7_cells 10 = .ok (.iconst 1, 1) := by decide +kernel
theorem dX7_cells_11 : decode cX7_cells 11 = .ok (.iaload, 1) := by decide +kernel
theorem dX7_cells_12 : decode cX7_cells 12 = .ok (.imul, 1) := by decide +kernel
theorem dX7_cells_13 : decode cX7_cells 13 = .ok (.ireturn, 1) := by decide +kernel
theorem dX7_laidCells_0 : decode cX7_laidCells 0 = .ok (.iconst 0, 1) := by decide +kernel
theorem dX7_laidCells_1 : decode cX7_laidCells 1 = .ok (.istore_n 1, 1) := by decide +kernel
theorem dX7_laidCells_2 : decode cX7_laidCells 2 = .ok (.iconst 0, 1) := by decide +kernel
theorem dX7_laidCells_3 : decode cX7_laidCells 3 = .ok (.istore_n 2, 1) := by decide +kernel
theorem dX7_laidCells_4 : decode cX7_laidCells 4 = .ok (.iload_n 2, 1) := by decide +kernel
theorem dX7_laidCells_5 : decode cX7_laidCells 5 = .ok (.aload_n 0, 1) := by decide +kernel
theorem dX7_laidCells_6 : decode cX7_laidCells 6 = .ok (.invokevirtual 41, 3) := by decide +kernel
theorem dX7_laidCells_9 : decode cX7_laidCells 9 = .ok (.if_icmp .ge 31, 3) := by decide +kernel
theorem dX7_laidCells_12 : decode cX7_laidCells 12 = .ok (.iload_n 1, 1) := by decide +kernel
theorem dX7_laidCells_13 : decode cX7_laidCells 13 = .ok (.aload_n 0, 1) := by decide +kernel
theorem dX7_laidCells_14 : decode cX7_laidCells 14 = .ok (.getfield 7, 3) := by decide +kernel
theorem dX7_laidCells_17 : decode cX7_laidCells 17 = .ok (.sipush 164, 3) := by decide +kernel
theorem dX7_laidCells_20 : decode cX7_laidCells 20 = .ok (.iload_n 2, 1) := by decide +kernel
theorem dX7_laidCells_21 : decode cX7_laidCells 21 = .ok (.iadd, 1) := by decide +kernel
theorem dX7_laidCells_22 : decode cX7_laidCells 22 = .ok (.iaload, 1) := by decide +kernel
theorem dX7_laidCells_23 : decode cX7_laidCells 23 = .ok (.iconst (-1), 1) := by decide +kernel
theorem dX7_laidCells_24 : decode cX7_laidCells 24 = .ok (.if_icmp .eq 7, 3) := by decide +kernel
theorem dX7_laidCells_27 : decode cX7_laidCells 27 = .ok (.iconst 1, 1) := by decide +kernel
theorem dX7_laidCells_28 : decode cX7_laidCells 28 = .ok (.goto 4, 3) := by decide +kernel
theorem dX7_laidCells_31 : decode cX7_laidCells 31 = .ok (.iconst 0, 1) := by decide +kernel
theorem dX7_laidCells_32 : decode cX7_laidCells 32 = .ok (.iadd, 1) := by decide +kernel
theorem dX7_laidCells_33 : decode cX7_laidCells 33 = .ok (.istore_n 1, 1) := by decide +kernel
theorem dX7_laidCells_34 : decode cX7_laidCells 34 = .ok (.iinc 2 1, 3) := by decide +kernel
theorem dX7_laidCells_37 : decode cX7_laidCells 37 = .ok (.goto (-33), 3) := by decide +kernel
theorem dX7_laidCells_40 : decode cX7_laidCells 40 = .ok (.iload_n 1, 1) := by decide +kernel
theorem dX7_laidCells_41 : decode cX7_laidCells 41 = .ok (.ireturn, 1) := by decide +kernel
theorem dX7_around_0 : decode cX7_around 0 = .ok (.iconst 2, 1) := by decide +kernel
theorem dX7_around_1 : decode cX7_around 1 = .ok (.aload_n 0, 1) := by decide +kernel
theorem dX7_around_2 : decode cX7_around 2 = .ok (.getfield 7, 3) := by decide +kernel
theorem dX7_around_5 : decode cX7_around 5 = .ok (.iconst 0, 1) := by decide +kernel
theorem dX7_around_6 : decode cX7_around 6 = .ok (.iaload, 1) := by decide +kernel
theorem dX7_around_7 : decode cX7_around 7 = .ok (.aload_n 0, 1) := by decide +kernel
theorem dX7_around_8 : decode cX7_around 8 = .ok (.getfield 7, 3) := by decide +kernel
theorem dX7_around_11 : decode cX7_around 11 = .ok (.iconst 1, 1) := by decide +kernel
theorem dX7_around_12 : decode cX7_around 12 = .ok (.iaload, 1) := by decide +kernel
theorem dX7_around_13 : decode cX7_around 13 = .ok (.iadd, 1) := by decide +kernel
theorem dX7_around_14 : decode cX7_around 14 = .ok (.imul, 1) := by decide +kernel
theorem dX7_around_15 : decode cX7_around 15 = .ok (.iconst 4, 1) := by decide +kernel
theorem dX7_around_16 : decode cX7_around 16 = .ok (.isub, 1) := by decide +kernel
theorem dX7_around_17 : decode cX7_around 17 = .ok (.ireturn, 1) := by decide +kernel
theorem dX7_borderOf_0 : decode cX7_borderOf 0 = .ok (.aload_n 0, 1) := by decide +kernel
theorem dX7_borderOf_1 : decode cX7_borderOf 1 = .ok (.getfield 7, 3) := by decide +kernel
theorem dX7_borderOf_4 : decode cX7_borderOf 4 = .ok (.iconst 0, 1) := by decide +kernel
theorem dX7_borderOf_5 : decode cX7_borderOf 5 = .ok (.iaload, 1) := by decide +kernel
theorem dX7_borderOf_6 : decode cX7_borderOf 6 = .ok (.iconst 1, 1) := by decide +kernel
theorem dX7_borderOf_7 : decode cX7_borderOf 7 = .ok (.isub, 1) := by decide +kernel
theorem dX7_borderOf_8 : decode cX7_borderOf 8 = .ok (.istore_n 3, 1) := by decide +kernel
theorem dX7_borderOf_9 : decode cX7_borderOf 9 = .ok (.aload_n 0, 1) := by decide +kernel
theorem dX7_borderOf_10 : decode cX7_borderOf 10 = .ok (.getfield 7, 3) := by decide +kernel
theorem dX7_borderOf_13 : decode cX7_borderOf 13 = .ok (.iconst 1, 1) := by decide +kernel
theorem dX7_borderOf_14 : decode cX7_borderOf 14 = .ok (.iaload, 1) := by decide +kernel
theorem dX7_borderOf_15 : decode cX7_borderOf 15 = .ok (.iconst 1, 1) := by decide +kernel
theorem dX7_borderOf_16 : decode cX7_borderOf 16 = .ok (.isub, 1) := by decide +kernel
theorem dX7_borderOf_17 : decode cX7_borderOf 17 = .ok (.istore 4, 2) := by decide +kernel
theorem dX7_borderOf_19 : decode cX7_borderOf 19 = .ok (.iload_n 2, 1) := by decide +kernel
theorem dX7_borderOf_20 : decode cX7_borderOf 20 = .ok (.ifCond .ne 7, 3) := by decide +kernel
theorem dX7_borderOf_23 : decode cX7_borderOf 23 = .ok (.iload_n 1, 1) := by decide +kernel
theorem dX7_borderOf_24 : decode cX7_borderOf 24 = .ok (.goto 50, 3) := by decide +kernel
theorem dX7_borderOf_27 : decode cX7_borderOf 27 = .ok (.iload_n 1, 1) := by decide +kernel
theorem dX7_borderOf_28 : decode cX7_borderOf 28 = .ok (.iload_n 3, 1) := by decide +kernel
theorem dX7_borderOf_29 : decode cX7_borderOf 29 = .ok (.if_icmp .ne 9, 3) := by decide +kernel
theorem dX7_borderOf_32 : decode cX7_borderOf 32 = .ok (.iload_n 3, 1) := by decide +kernel
theorem dX7_borderOf_33 : decode cX7_borderOf 33 = .ok (.iload_n 2, 1) := by decide +kernel
theorem dX7_borderOf_34 : decode cX7_borderOf 34 = .ok (.iadd, 1) := by decide +kernel
theorem dX7_borderOf_35 : decode cX7_borderOf 35 = .ok (.goto 39, 3) := by decide +kernel
theorem dX7_borderOf_38 : decode cX7_borderOf 38 = .ok (.iload_n 2, 1) := by decide +kernel
theorem dX7_borderOf_39 : decode cX7_borderOf 39 = .ok (.iload 4, 2) := by decide +kernel
theorem dX7_borderOf_41 : decode cX7_borderOf 41 = .ok (.if_icmp .ne 14, 3) := by decide +kernel
theorem dX7_borderOf_44 : decode cX7_borderOf 44 = .ok (.iload_n 3, 1) := by decide +kernel
theorem dX7_borderOf_45 : decode cX7_borderOf 45 = .ok (.iload 4, 2) := by decide +kernel
theorem dX7_borderOf_47 : decode cX7_borderOf 47 = .ok (.iadd, 1) := by decide +kernel
theorem dX7_borderOf_48 : decode cX7_borderOf 48 = .ok (.iload_n 3, 1) := by decide +kernel
theorem dX7_borderOf_49 : decode cX7_borderOf 49 = .ok (.iadd, 1) := by decide +kernel
theorem dX7_borderOf_50 : decode cX7_borderOf 50 = .ok (.iload_n 1, 1) := by decide +kernel
theorem dX7_borderOf_51 : decode cX7_borderOf 51 = .ok (.isub, 1) := by decide +kernel
theorem dX7_borderOf_52 : decode cX7_borderOf 52 = .ok (.goto 22, 3) := by decide +kernel
theorem dX7_borderOf_55 : decode cX7_borderOf 55 = .ok (.iload_n 1, 1) := by decide +kernel
theorem dX7_borderOf_56 : decode cX7_borderOf 56 = .ok (.ifCond .ne 17, 3) := by decide +kernel
theorem dX7_borderOf_59 : decode cX7_borderOf 59 = .ok (.iconst 2, 1) := by decide +kernel
theorem dX7_borderOf_60 : decode cX7_borderOf 60 = .ok (.iload_n 3, 1) := by decide +kernel
theorem dX7_borderOf_61 : decode cX7_borderOf 61 = .ok (.imul, 1) := by decide +kernel
theorem dX7_borderOf_62 : decode cX7_borderOf 62 = .ok (.iload 4, 2) := by decide +kernel
theorem dX7_borderOf_64 : decode cX7_borderOf 64 = .ok (.iadd, 1) := by decide +kernel
theorem dX7_borderOf_65 : decode cX7_borderOf 65 = .ok (.iload 4, 2) := by decide +kernel
theorem dX7_borderOf_67 : decode cX7_borderOf 67 = .ok (.iadd, 1) := by decide +kernel
theorem dX7_borderOf_68 : decode cX7_borderOf 68 = .ok (.iload_n 2, 1) := by decide +kernel
theorem dX7_borderOf_69 : decode cX7_borderOf 69 = .ok (.isub, 1) := by decide +kernel
theorem dX7_borderOf_70 : decode cX7_borderOf 70 = .ok (.goto 4, 3) := by decide +kernel
theorem dX7_borderOf_73 : decode cX7_borderOf 73 = .ok (.iconst (-1), 1) := by decide +kernel
theorem dX7_borderOf_74 : decode cX7_borderOf 74 = .ok (.ireturn, 1) := by decide +kernel
theorem dX7_borderWants_0 : decode cX7_borderWants 0 = .ok (.aload_n 0, 1) := by decide +kernel
theorem dX7_borderWants_1 : decode cX7_borderWants 1 = .ok (.getfield 7, 3) := by decide +kernel
theorem dX7_borderWants_4 : decode cX7_borderWants 4 = .ok (.iconst 5, 1) := by decide +kernel
theorem dX7_borderWants_5 : decode cX7_borderWants 5 = .ok (.iaload, 1) := by decide +kernel
theorem dX7_borderWants_6 : decode cX7_borderWants 6 = .ok (.ifCond .ne 20, 3) := by decide +kernel
theorem dX7_borderWants_9 : decode cX7_borderWants 9 = .ok (.aload_n 0, 1) := by decide +kernel
theorem dX7_borderWants_10 : decode cX7_borderWants 10 = .ok (.getfield 7, 3) := by decide +kernel
theorem dX7_borderWants_13 : decode cX7_borderWants 13 = .ok (.bipush 12, 2) := by decide +kernel
theorem dX7_borderWants_15 : decode cX7_borderWants 15 = .ok (.iload_n 1, 1) := by decide +kernel
theorem dX7_borderWants_16 : decode cX7_borderWants 16 = .ok (.aload_n 0, 1) := by decide +kernel
theorem dX7_borderWants_17 : decode cX7_borderWants 17 = .ok (.getfield 7, 3) := by decide +kernel
theorem dX7_borderWants_20 : decode cX7_borderWants 20 = .ok (.iconst 4, 1) := by decide +kernel
theorem dX7_borderWants_21 : decode cX7_borderWants 21 = .ok (.iaload, 1) := by decide +kernel
theorem dX7_borderWants_22 : decode cX7_borderWants 22 = .ok (.irem, 1) := by decide +kernel
theorem dX7_borderWants_23 : decode cX7_borderWants 23 = .ok (.iadd, 1) := by decide +kernel
theorem dX7_borderWants_24 : decode cX7_borderWants 24 = .ok (.iaload, 1) := by decide +kernel
theorem dX7_borderWants_25 : decode cX7_borderWants 25 = .ok (.ireturn, 1) := by decide +kernel
theorem dX7_borderWants_26 : decode cX7_borderWants 26 = .ok (.aload_n 0, 1) := by decide +kernel
theorem dX7_borderWants_27 : decode cX7_borderWants 27 = .ok (.getfield 7, 3) := by decide +kernel
theorem dX7_borderWants_30 : decode cX7_borderWants 30 = .ok (.iconst 0, 1) := by decide +kernel
theorem dX7_borderWants_31 : decode cX7_borderWants 31 = .ok (.iaload, 1) := by decide +kernel
theorem dX7_borderWants_32 : decode cX7_borderWants 32 = .ok (.iconst 1, 1) := by decide +kernel
theorem dX7_borderWants_33 : decode cX7_borderWants 33 = .ok (.isub, 1) := by decide +kernel
theorem dX7_borderWants_34 : decode cX7_borderWants 34 = .ok (.istore_n 2, 1) := by decide +kernel
theorem dX7_borderWants_35 : decode cX7_borderWants 35 = .ok (.aload_n 0, 1) := by decide +kernel
theorem dX7_borderWants_36 : decode cX7_borderWants 36 = .ok (.getfield 7, 3) := by decide +kernel
theorem dX7_borderWants_39 : decode cX7_borderWants 39 = .ok (.iconst 1, 1) := by decide +kernel
theorem dX7_borderWants_40 : decode cX7_borderWants 40 = .ok (.iaload, 1) := by decide +kernel
theorem dX7_borderWants_41 : decode cX7_borderWants 41 = .ok (.iconst 1, 1) := by decide +kernel
theorem dX7_borderWants_42 : decode cX7_borderWants 42 = .ok (.isub, 1) := by decide +kernel
theorem dX7_borderWants_43 : decode cX7_borderWants 43 = .ok (.istore_n 3, 1) := by decide +kernel
theorem dX7_borderWants_44 : decode cX7_borderWants 44 = .ok (.iload_n 1, 1) := by decide +kernel
theorem dX7_borderWants_45 : decode cX7_borderWants 45 = .ok (.iload_n 2, 1) := by decide +kernel
theorem dX7_borderWants_46 : decode cX7_borderWants 46 = .ok (.if_icmp .ge 7, 3) := by decide +kernel
theorem dX7_borderWants_49 : decode cX7_borderWants 49 = .ok (.iload_n 1, 1) := by decide +kernel
theorem dX7_borderWants_50 : decode cX7_borderWants 50 = .ok (.goto 40, 3) := by decide +kernel
theorem dX7_borderWants_53 : decode cX7_borderWants 53 = .ok (.iload_n 1, 1) := by decide +kernel
theorem dX7_borderWants_54 : decode cX7_borderWants 54 = .ok (.iload_n 2, 1) := by decide +kernel
theorem dX7_borderWants_55 : decode cX7_borderWants 55 = .ok (.iload_n 3, 1) := by decide +kernel
theorem dX7_borderWants_56 : decode cX7_borderWants 56 = .ok (.iadd, 1) := by decide +kernel
theorem dX7_borderWants_57 : decode cX7_borderWants 57 = .ok (.if_icmp .ge 9, 3) := by decide +kernel
theorem dX7_borderWants_60 : decode cX7_borderWants 60 = .ok (.iload_n 1, 1) := by decide +kernel
theorem dX7_borderWants_61 : decode cX7_borderWants 61 = .ok (.iload_n 2, 1) := by decide +kernel
theorem dX7_borderWants_62 : decode cX7_borderWants 62 = .ok (.isub, 1) := by decide +kernel
theorem dX7_borderWants_63 : decode cX7_borderWants 63 = .ok (.goto 27, 3) := by decide +kernel
theorem dX7_borderWants_66 : decode cX7_borderWants 66 = .ok (.iload_n 1, 1) := by decide +kernel
theorem dX7_borderWants_67 : decode cX7_borderWants 67 = .ok (.iconst 2, 1) := by decide +kernel
theorem dX7_borderWants_68 : decode cX7_borderWants 68 = .ok (.iload_n 2, 1) := by decide +kernel
theorem dX7_borderWants_69 : decode cX7_borderWants 69 = .ok (.imul, 1) := by decide +kernel
theorem dX7_borderWants_70 : decode cX7_borderWants 70 = .ok (.iload_n 3, 1) := by decide +kernel
theorem dX7_borderWants_71 : decode cX7_borderWants 71 = .ok (.iadd, 1) := by decide +kernel
theorem dX7_borderWants_72 : decode cX7_borderWants 72 = .ok (.if_icmp .ge 11, 3) := by decide +kernel
theorem dX7_borderWants_75 : decode cX7_borderWants 75 = .ok (.iload_n 1, 1) := by decide +kernel
theorem dX7_borderWants_76 : decode cX7_borderWants 76 = .ok (.iload_n 2, 1) := by decide +kernel
theorem dX7_borderWants_77 : decode cX7_borderWants 77 = .ok (.isub, 1) := by decide +kernel
theorem dX7_borderWants_78 : decode cX7_borderWants 78 = .ok (.iload_n 3, 1) := by decide +kernel
theorem dX7_borderWants_79 : decode cX7_borderWants 79 = .ok (.isub, 1) := by decide +kernel
theorem dX7_borderWants_80 : decode cX7_borderWants 80 = .ok (.goto 10, 3) := by decide +kernel
theorem dX7_borderWants_83 : decode cX7_borderWants 83 = .ok (.iload_n 1, 1) := by decide +kernel
theorem dX7_borderWants_84 : decode cX7_borderWants 84 = .ok (.iconst 2, 1) := by decide +kernel
theorem dX7_borderWants_85 : decode cX7_borderWants 85 = .ok (.iload_n 2, 1) := by decide +kernel
theorem dX7_borderWants_86 : decode cX7_borderWants 86 = .ok (.imul, 1) := by decide +kernel
theorem dX7_borderWants_87 : decode cX7_borderWants 87 = .ok (.isub, 1) := by decide +kernel
theorem dX7_borderWants_88 : decode cX7_borderWants 88 = .ok (.iload_n 3, 1) := by decide +kernel
theorem dX7_borderWants_89 : decode cX7_borderWants 89 = .ok (.isub, 1) := by decide +kernel
theorem dX7_borderWants_90 : decode cX7_borderWants 90 = .ok (.istore 4, 2) := by decide +kernel
theorem dX7_borderWants_92 : decode cX7_borderWants 92 = .ok (.iload_n 1, 1) := by decide +kernel
theorem dX7_borderWants_93 : decode cX7_borderWants 93 = .ok (.iload_n 2, 1) := by decide +kernel
theorem dX7_borderWants_94 : decode cX7_borderWants 94 = .ok (.if_icmp .lt 19, 3) := by decide +kernel
theorem dX7_borderWants_97 : decode cX7_borderWants 97 = .ok (.iload_n 1, 1) := by decide +kernel
theorem dX7_borderWants_98 : decode cX7_borderWants 98 = .ok (.iload_n 2, 1) := by decide +kernel
theorem dX7_borderWants_99 : decode cX7_borderWants 99 = .ok (.iload_n 3, 1) := by decide +kernel
theorem dX7_borderWants_100 : decode cX7_borderWants 100 = .ok (.iadd, 1) := by decide +kernel
theorem dX7_borderWants_101 : decode cX7_borderWants 101 = .ok (.if_icmp .lt 16, 3) := by decide +kernel
theorem dX7_borderWants_104 : decode cX7_borderWants 104 = .ok (.iload_n 1, 1) := by decide +kernel
theorem dX7_borderWants_105 : decode cX7_borderWants 105 = .ok (.iconst 2, 1) := by decide +kernel
theorem dX7_borderWants_106 : decode cX7_borderWants 106 = .ok (.iload_n 2, 1) := by decide +kernel
theorem dX7_borderWants_107 : decode cX7_borderWants 107 = .ok (.imul, 1) := by decide +kernel
theorem dX7_borderWants_108 : decode cX7_borderWants 108 = .ok (.iload_n 3, 1) := by decide +kernel
theorem dX7_borderWants_109 : decode cX7_borderWants 109 = .ok (.iadd, 1) := by decide +kernel
theorem dX7_borderWants_110 : decode cX7_borderWants 110 = .ok (.if_icmp .ge 7, 3) := by decide +kernel
theorem dX7_borderWants_113 : decode cX7_borderWants 113 = .ok (.iload_n 2, 1) := by decide +kernel
theorem dX7_borderWants_114 : decode cX7_borderWants 114 = .ok (.goto 4, 3) := by decide +kernel
theorem dX7_borderWants_117 : decode cX7_borderWants 117 = .ok (.iload_n 3, 1) := by decide +kernel
theorem dX7_borderWants_118 : decode cX7_borderWants 118 = .ok (.istore 5, 2) := by decide +kernel
theorem dX7_borderWants_120 : decode cX7_borderWants 120 = .ok (.aload_n 0, 1) := by decide +kernel
theorem dX7_borderWants_121 : decode cX7_borderWants 121 = .ok (.getfield 7, 3) := by decide +kernel
theorem dX7_borderWants_124 : decode cX7_borderWants 124 = .ok (.iconst 5, 1) := by decide +kernel
theorem dX7_borderWants_125 : decode cX7_borderWants 125 = .ok (.iaload, 1) := by decide +kernel
theorem dX7_borderWants_126 : decode cX7_borderWants 126 = .ok (.iconst 1, 1) := by decide +kernel
theorem dX7_borderWants_127 : decode cX7_borderWants 127 = .ok (.if_icmp .ne 29, 3) := by decide +kernel
theorem dX7_borderWants_130 : decode cX7_borderWants 130 = .ok (.aload_n 0, 1) := by decide +kernel
theorem dX7_borderWants_131 : decode cX7_borderWants 131 = .ok (.getfield 7, 3) := by decide +kernel
theorem dX7_borderWants_134 : decode cX7_borderWants 134 = .ok (.bipush 12, 2) := by decide +kernel
theorem dX7_borderWants_136 : decode cX7_borderWants 136 = .ok (.iload 4, 2) := by decide +kernel
theorem dX7_borderWants_138 : decode cX7_borderWants 138 = .ok (.iload 5, 2) := by decide +kernel
theorem dX7_borderWants_140 : decode cX7_borderWants 140 = .ok (.iload 4, 2) := by decide +kernel
theorem dX7_borderWants_142 : decode cX7_borderWants 142 = .ok (.isub, 1) := by decide +kernel
theorem dX7_borderWants_143 : decode cX7_borderWants 143 = .ok (.invokestatic 45, 3) := by decide +kernel
theorem dX7_borderWants_146 : decode cX7_borderWants 146 = .ok (.aload_n 0, 1) := by decide +kernel
theorem dX7_borderWants_147 : decode cX7_borderWants 147 = .ok (.getfield 7, 3) := by decide +kernel
theorem dX7_borderWants_150 : decode cX7_borderWants 150 = .ok (.iconst 4, 1) := by decide +kernel
theorem dX7_borderWants_151 : decode cX7_borderWants 151 = .ok (.iaload, 1) := by decide +kernel
theorem dX7_borderWants_152 : decode cX7_borderWants 152 = .ok (.irem, 1) := by decide +kernel
theorem dX7_borderWants_153 : decode cX7_borderWants 153 = .ok (.iadd, 1) := by decide +kernel
theorem dX7_borderWants_154 : decode cX7_borderWants 154 = .ok (.iaload, 1) := by decide +kernel
theorem dX7_borderWants_155 : decode cX7_borderWants 155 = .ok (.ireturn, 1) := by decide +kernel
theorem dX7_borderWants_156 : decode cX7_borderWants 156 = .ok (.aload_n 0, 1) := by decide +kernel
theorem dX7_borderWants_157 : decode cX7_borderWants 157 = .ok (.getfield 7, 3) := by decide +kernel
theorem dX7_borderWants_160 : decode cX7_borderWants 160 = .ok (.bipush 12, 2) := by decide +kernel
theorem dX7_borderWants_162 : decode cX7_borderWants 162 = .ok (.iload 4, 2) := by decide +kernel
theorem dX7_borderWants_164 : decode cX7_borderWants 164 = .ok (.iload 5, 2) := by decide +kernel
theorem dX7_borderWants_166 : decode cX7_borderWants 166 = .ok (.iload 5, 2) := by decide +kernel
theorem dX7_borderWants_168 : decode cX7_borderWants 168 = .ok (.aload_n 0, 1) := by decide +kernel
theorem dX7_borderWants_169 : decode cX7_borderWants 169 = .ok (.getfield 7, 3) := by decide +kernel
theorem dX7_borderWants_172 : decode cX7_borderWants 172 = .ok (.iconst 4, 1) := by decide +kernel
theorem dX7_borderWants_173 : decode cX7_borderWants 173 = .ok (.iaload, 1) := by decide +kernel
theorem dX7_borderWants_174 : decode cX7_borderWants 174 = .ok (.irem, 1) := by decide +kernel
theorem dX7_borderWants_175 : decode cX7_borderWants 175 = .ok (.isub, 1) := by decide +kernel
theorem dX7_borderWants_176 : decode cX7_borderWants 176 = .ok (.if_icmp .lt 7, 3) := by decide +kernel
theorem dX7_borderWants_179 : decode cX7_borderWants 179 = .ok (.iconst 0, 1) := by decide +kernel
theorem dX7_borderWants_180 : decode cX7_borderWants 180 = .ok (.goto 12, 3) := by decide +kernel
theorem dX7_borderWants_183 : decode cX7_borderWants 183 = .ok (.iload 4, 2) := by decide +kernel
theorem dX7_borderWants_185 : decode cX7_borderWants 185 = .ok (.aload_n 0, 1) := by decide +kernel
theorem dX7_borderWants_186 : decode cX7_borderWants 186 = .ok (.getfield 7, 3) := by decide +kernel
theorem dX7_borderWants_189 : decode cX7_borderWants 189 = .ok (.iconst 4, 1) := by decide +kernel
theorem dX7_borderWants_190 : decode cX7_borderWants 190 = .ok (.iaload, 1) := by decide +kernel
theorem dX7_borderWants_191 : decode cX7_borderWants 191 = .ok (.irem, 1) := by decide +kernel
theorem dX7_borderWants_192 : decode cX7_borderWants 192 = .ok (.iadd, 1) := by decide +kernel
theorem dX7_borderWants_193 : decode cX7_borderWants 193 = .ok (.iaload, 1) := by decide +kernel
theorem dX7_borderWants_194 : decode cX7_borderWants 194 = .ok (.ireturn, 1) := by decide +kernel
theorem dX7_wanted_0 : decode cX7_wanted 0 = .ok (.aload_n 0, 1) := by decide +kernel
theorem dX7_wanted_1 : decode cX7_wanted 1 = .ok (.iload_n 1, 1) := by decide +kernel
theorem dX7_wanted_2 : decode cX7_wanted 2 = .ok (.aload_n 0, 1) := by decide +kernel
theorem dX7_wanted_3 : decode cX7_wanted 3 = .ok (.getfield 7, 3) := by decide +kernel
theorem dX7_wanted_6 : decode cX7_wanted 6 = .ok (.iconst 0, 1) := by decide +kernel
theorem dX7_wanted_7 : decode cX7_wanted 7 = .ok (.iaload, 1) := by decide +kernel
theorem dX7_wanted_8 : decode cX7_wanted 8 = .ok (.irem, 1) := by decide +kernel
theorem dX7_wanted_9 : decode cX7_wanted 9 = .ok (.iload_n 1, 1) := by decide +kernel
theorem dX7_wanted_10 : decode cX7_wanted 10 = .ok (.aload_n 0, 1) := by decide +kernel
theorem dX7_wanted_11 : decode cX7_wanted 11 = .ok (.getfield 7, 3) := by decide +kernel
theorem dX7_wanted_14 : decode cX7_wanted 14 = .ok (.iconst 0, 1) := by decide +kernel
theorem dX7_wanted_15 : decode cX7_wanted 15 = .ok (.iaload, 1) := by decide +kernel
theorem dX7_wanted_16 : decode cX7_wanted 16 = .ok (.idiv, 1) := by decide +kernel
theorem dX7_wanted_17 : decode cX7_wanted 17 = .ok (.invokevirtual 49, 3) := by decide +kernel
theorem dX7_wanted_20 : decode cX7_wanted 20 = .ok (.istore_n 2, 1) := by decide +kernel
theorem dX7_wanted_21 : decode cX7_wanted 21 = .ok (.iload_n 2, 1) := by decide +kernel
theorem dX7_wanted_22 : decode cX7_wanted 22 = .ok (.iconst (-1), 1) := by decide +kernel
theorem dX7_wanted_23 : decode cX7_wanted 23 = .ok (.if_icmp .ne 15, 3) := by decide +kernel
theorem dX7_wanted_26 : decode cX7_wanted 26 = .ok (.aload_n 0, 1) := by decide +kernel
theorem dX7_wanted_27 : decode cX7_wanted 27 = .ok (.getfield 7, 3) := by decide +kernel
theorem dX7_wanted_30 : decode cX7_wanted 30 = .ok (.bipush 20, 2) := by decide +kernel
theorem dX7_wanted_32 : decode cX7_wanted 32 = .ok (.iload_n 1, 1) := by decide +kernel
theorem dX7_wanted_33 : decode cX7_wanted 33 = .ok (.iadd, 1) := by decide +kernel
theorem dX7_wanted_34 : decode cX7_wanted 34 = .ok (.iaload, 1) := by decide +kernel
theorem dX7_wanted_35 : decode cX7_wanted 35 = .ok (.goto 8, 3) := by decide +kernel
theorem dX7_wanted_38 : decode cX7_wanted 38 = .ok (.aload_n 0, 1) := by decide +kernel
theorem dX7_wanted_39 : decode cX7_wanted 39 = .ok (.iload_n 2, 1) := by decide +kernel
theorem dX7_wanted_40 : decode cX7_wanted 40 = .ok (.invokevirtual 52, 3) := by decide +kernel
theorem dX7_wanted_43 : decode cX7_wanted 43 = .ok (.ireturn, 1) := by decide +kernel
theorem dX7_meets_0 : decode cX7_meets 0 = .ok (.iconst 1, 1) := by decide +kernel
theorem dX7_meets_1 : decode cX7_meets 1 = .ok (.istore_n 1, 1) := by decide +kernel
theorem dX7_meets_2 : decode cX7_meets 2 = .ok (.iconst 1, 1) := by decide +kernel
theorem dX7_meets_3 : decode cX7_meets 3 = .ok (.istore_n 2, 1) := by decide +kernel
theorem dX7_meets_4 : decode cX7_meets 4 = .ok (.iload_n 2, 1) := by decide +kernel
theorem dX7_meets_5 : decode cX7_meets 5 = .ok (.aload_n 0, 1) := by decide +kernel
theorem dX7_meets_6 : decode cX7_meets 6 = .ok (.getfield 7, 3) := by decide +kernel
theorem dX7_meets_9 : decode cX7_meets 9 = .ok (.iconst 4, 1) := by decide +kernel
theorem dX7_meets_10 : decode cX7_meets 10 = .ok (.iaload, 1) := by decide +kernel
theorem dX7_meets_11 : decode cX7_meets 11 = .ok (.if_icmp .ge 38, 3) := by decide +kernel
theorem dX7_meets_14 : decode cX7_meets 14 = .ok (.iload_n 1, 1) := by decide +kernel
theorem dX7_meets_15 : decode cX7_meets 15 = .ok (.ifCond .eq 26, 3) := by decide +kernel
theorem dX7_meets_18 : decode cX7_meets 18 = .ok (.aload_n 0, 1) := by decide +kernel
theorem dX7_meets_19 : decode cX7_meets 19 = .ok (.getfield 7, 3) := by decide +kernel
theorem dX7_meets_22 : decode cX7_meets 22 = .ok (.bipush 12, 2) := by decide +kernel
theorem dX7_meets_24 : decode cX7_meets 24 = .ok (.iload_n 2, 1) := by decide +kernel
theorem dX7_meets_25 : decode cX7_meets 25 = .ok (.iadd, 1) := by decide +kernel
theorem dX7_meets_26 : decode cX7_meets 26 = .ok (.iaload, 1) := by decide +kernel
theorem dX7_meets_27 : decode cX7_meets 27 = .ok (.aload_n 0, 1) := by decide +kernel
theorem dX7_meets_28 : decode cX7_meets 28 = .ok (.getfield 7, 3) := by decide +kernel
theorem dX7_meets_31 : decode cX7_meets 31 = .ok (.bipush 12, 2) := by decide +kernel
theorem dX7_meets_33 : decode cX7_meets 33 = .ok (.iaload, 1) := by decide +kernel
theorem dX7_meets_34 : decode cX7_meets 34 = .ok (.if_icmp .ne 7, 3) := by decide +kernel
theorem dX7_meets_37 : decode cX7_meets 37 = .ok (.iconst 1, 1) := by decide +kernel
theorem dX7_meets_38 : decode cX7_meets 38 = .ok (.goto 4, 3) := by decide +kernel
theorem dX7_meets_41 : decode cX7_meets 41 = .ok (.iconst 0, 1) := by decide +kernel
theorem dX7_meets_42 : decode cX7_meets 42 = .ok (.istore_n 1, 1) := by decide +kernel
theorem dX7_meets_43 : decode cX7_meets 43 = .ok (.iinc 2 1, 3) := by decide +kernel
theorem dX7_meets_46 : decode cX7_meets 46 = .ok (.goto (-42), 3) := by decide +kernel
theorem dX7_meets_49 : decode cX7_meets 49 = .ok (.iconst 1, 1) := by decide +kernel
theorem dX7_meets_50 : decode cX7_meets 50 = .ok (.istore_n 2, 1) := by decide +kernel
theorem dX7_meets_51 : decode cX7_meets 51 = .ok (.iconst 0, 1) := by decide +kernel
theorem dX7_meets_52 : decode cX7_meets 52 = .ok (.istore_n 3, 1) := by decide +kernel
theorem dX7_meets_53 : decode cX7_meets 53 = .ok (.iload_n 3, 1) := by decide +kernel
theorem dX7_meets_54 : decode cX7_meets 54 = .ok (.aload_n 0, 1) := by decide +kernel
theorem dX7_meets_55 : decode cX7_meets 55 = .ok (.invokevirtual 56, 3) := by decide +kernel
theorem dX7_meets_58 : decode cX7_meets 58 = .ok (.if_icmp .ge 39, 3) := by decide +kernel
theorem dX7_meets_61 : decode cX7_meets 61 = .ok (.iload_n 2, 1) := by decide +kernel
theorem dX7_meets_62 : decode cX7_meets 62 = .ok (.ifCond .eq 27, 3) := by decide +kernel
theorem dX7_meets_65 : decode cX7_meets 65 = .ok (.aload_n 0, 1) := by decide +kernel
theorem dX7_meets_66 : decode cX7_meets 66 = .ok (.iload_n 3, 1) := by decide +kernel
theorem dX7_meets_67 : decode cX7_meets 67 = .ok (.invokevirtual 52, 3) := by decide +kernel
theorem dX7_meets_70 : decode cX7_meets 70 = .ok (.aload_n 0, 1) := by decide +kernel
theorem dX7_meets_71 : decode cX7_meets 71 = .ok (.iload_n 3, 1) := by decide +kernel
theorem dX7_meets_72 : decode cX7_meets 72 = .ok (.iconst 1, 1) := by decide +kernel
theorem dX7_meets_73 : decode cX7_meets 73 = .ok (.iadd, 1) := by decide +kernel
theorem dX7_meets_74 : decode cX7_meets 74 = .ok (.aload_n 0, 1) := by decide +kernel
theorem dX7_meets_75 : decode cX7_meets 75 = .ok (.invokevirtual 56, 3) := by decide +kernel
theorem dX7_meets_78 : decode cX7_meets 78 = .ok (.irem, 1) := by decide +kernel
theorem dX7_meets_79 : decode cX7_meets 79 = .ok (.invokevirtual 52, 3) := by decide +kernel
theorem dX7_meets_82 : decode cX7_meets 82 = .ok (.if_icmp .eq 7, 3) := by decide +kernel
theorem dX7_meets_85 : decode cX7_meets 85 = .ok (.iconst 1, 1) := by decide +kernel
theorem dX7_meets_86 : decode cX7_meets 86 = .ok (.goto 4, 3) := by decide +kernel
theorem dX7_meets_89 : decode cX7_meets 89 = .ok (.iconst 0, 1) := by decide +kernel
theorem dX7_meets_90 : decode cX7_meets 90 = .ok (.istore_n 2, 1) := by decide +kernel
theorem dX7_meets_91 : decode cX7_meets 91 = .ok (.iinc 3 1, 3) := by decide +kernel
theorem dX7_meets_94 : decode cX7_meets 94 = .ok (.goto (-41), 3) := by decide +kernel
theorem dX7_meets_97 : decode cX7_meets 97 = .ok (.iload_n 1, 1) := by decide +kernel
theorem dX7_meets_98 : decode cX7_meets 98 = .ok (.ifCond .ne 7, 3) := by decide +kernel
theorem dX7_meets_101 : decode cX7_meets 101 = .ok (.iload_n 2, 1) := by decide +kernel
theorem dX7_meets_102 : decode cX7_meets 102 = .ok (.ifCond .eq 7, 3) := by decide +kernel
theorem dX7_meets_105 : decode cX7_meets 105 = .ok (.iconst 1, 1) := by decide +kernel
theorem dX7_meets_106 : decode cX7_meets 106 = .ok (.goto 4, 3) := by decide +kernel
theorem dX7_meets_109 : decode cX7_meets 109 = .ok (.iconst 0, 1) := by decide +kernel
theorem dX7_meets_110 : decode cX7_meets 110 = .ok (.ireturn, 1) := by decide +kernel
theorem dX7_floor_0 : decode cX7_floor 0 = .ok (.iload_n 1, 1) := by decide +kernel
theorem dX7_floor_1 : decode cX7_floor 1 = .ok (.iconst 3, 1) := by decide +kernel
theorem dX7_floor_2 : decode cX7_floor 2 = .ok (.bipush 12, 2) := by decide +kernel
theorem dX7_floor_4 : decode cX7_floor 4 = .ok (.invokestatic 37, 3) := by decide +kernel
theorem dX7_floor_7 : decode cX7_floor 7 = .ok (.ifCond .eq 13, 3) := by decide +kernel
theorem dX7_floor_10 : decode cX7_floor 10 = .ok (.iload_n 2, 1) := by decide +kernel
theorem dX7_floor_11 : decode cX7_floor 11 = .ok (.iconst 3, 1) := by decide +kernel
theorem dX7_floor_12 : decode cX7_floor 12 = .ok (.bipush 12, 2) := by decide +kernel
theorem dX7_floor_14 : decode cX7_floor 14 = .ok (.invokestatic 37, 3) := by decide +kernel
theorem dX7_floor_17 : decode cX7_floor 17 = .ok (.ifCond .ne 5, 3) := by decide +kernel
theorem dX7_floor_20 : decode cX7_floor 20 = .ok (.iconst (-1), 1) := by decide +kernel
theorem dX7_floor_21 : decode cX7_floor 21 = .ok (.ireturn, 1) := by decide +kernel
theorem dX7_floor_22 : decode cX7_floor 22 = .ok (.aload_n 0, 1) := by decide +kernel
theorem dX7_floor_23 : decode cX7_floor 23 = .ok (.invokevirtual 59, 3) := by decide +kernel
theorem dX7_floor_26 : decode cX7_floor 26 = .ok (.ifCond .le 6, 3) := by decide +kernel
theorem dX7_floor_29 : decode cX7_floor 29 = .ok (.bipush (-2), 2) := by decide +kernel
theorem dX7_floor_31 : decode cX7_floor 31 = .ok (.ireturn, 1) := by decide +kernel
theorem dX7_floor_32 : decode cX7_floor 32 = .ok (.aload_n 0, 1) := by decide +kernel
theorem dX7_floor_33 : decode cX7_floor 33 = .ok (.invokevirtual 62, 3) := by decide +kernel
theorem dX7_floor_36 : decode cX7_floor 36 = .ok (.aload_n 0, 1) := by decide +kernel
theorem dX7_floor_37 : decode cX7_floor 37 = .ok (.iload_n 1, 1) := by decide +kernel
theorem dX7_floor_38 : decode cX7_floor 38 = .ok (.iload_n 2, 1) := by decide +kernel
theorem dX7_floor_39 : decode cX7_floor 39 = .ok (.invokevirtual 25, 3) := by decide +kernel
theorem dX7_floor_42 : decode cX7_floor 42 = .ok (.aload_n 0, 1) := by decide +kernel
theorem dX7_floor_43 : decode cX7_floor 43 = .ok (.invokevirtual 41, 3) := by decide +kernel
theorem dX7_floor_46 : decode cX7_floor 46 = .ok (.ireturn, 1) := by decide +kernel
theorem dX7_atHand_0 : decode cX7_atHand 0 = .ok (.iconst 0, 1) := by decide +kernel
theorem dX7_atHand_1 : decode cX7_atHand 1 = .ok (.istore_n 1, 1) := by decide +kernel
theorem dX7_atHand_2 : decode cX7_atHand 2 = .ok (.iconst 0, 1) := by decide +kernel
theorem dX7_atHand_3 : decode cX7_atHand 3 = .ok (.istore_n 2, 1) := by decide +kernel
theorem dX7_atHand_4 : decode cX7_atHand 4 = .ok (.iload_n 2, 1) := by decide +kernel
theorem dX7_atHand_5 : decode cX7_atHand 5 = .ok (.bipush 100, 2) := by decide +kernel
theorem dX7_atHand_7 : decode cX7_atHand 7 = .ok (.if_icmp .ge 22, 3) := by decide +kernel
theorem dX7_atHand_10 : decode cX7_atHand 10 = .ok (.iload_n 1, 1) := by decide +kernel
theorem dX7_atHand_11 : decode cX7_atHand 11 = .ok (.aload_n 0, 1) := by decide +kernel
theorem dX7_atHand_12 : decode cX7_atHand 12 = .ok (.getfield 7, 3) := by decide +kernel
theorem dX7_atHand_15 : decode cX7_atHand 15 = .ok (.sipush 308, 3) := by decide +kernel
theorem dX7_atHand_18 : decode cX7_atHand 18 = .ok (.iload_n 2, 1) := by decide +kernel
theorem dX7_atHand_19 : decode cX7_atHand 19 = .ok (.iadd, 1) := by decide +kernel
theorem dX7_atHand_20 : decode cX7_atHand 20 = .ok (.iaload, 1) := by decide +kernel
theorem dX7_atHand_21 : decode cX7_atHand 21 = .ok (.iadd, 1) := by decide +kernel
theorem dX7_atHand_22 : decode cX7_atHand 22 = .ok (.istore_n 1, 1) := by decide +kernel
theorem dX7_atHand_23 : decode cX7_atHand 23 = .ok (.iinc 2 1, 3) := by decide +kernel
theorem dX7_atHand_26 : decode cX7_atHand 26 = .ok (.goto (-22), 3) := by decide +kernel
theorem dX7_atHand_29 : decode cX7_atHand 29 = .ok (.iload_n 1, 1) := by decide +kernel
theorem dX7_atHand_30 : decode cX7_atHand 30 = .ok (.ireturn, 1) := by decide +kernel
theorem dX7_set_0 : decode cX7_set 0 = .ok (.iload_n 1, 1) := by decide +kernel
theorem dX7_set_1 : decode cX7_set 1 = .ok (.iconst 0, 1) := by decide +kernel
theorem dX7_set_2 : decode cX7_set 2 = .ok (.iconst 1, 1) := by decide +kernel
theorem dX7_set_3 : decode cX7_set 3 = .ok (.invokestatic 37, 3) := by decide +kernel
theorem dX7_set_6 : decode cX7_set 6 = .ok (.ifCond .eq 29, 3) := by decide +kernel
theorem dX7_set_9 : decode cX7_set 9 = .ok (.iload_n 2, 1) := by decide +kernel
theorem dX7_set_10 : decode cX7_set 10 = .ok (.iload_n 1, 1) := by decide +kernel
theorem dX7_set_11 : decode cX7_set 11 = .ok (.ifCond .ne 7, 3) := by decide +kernel
theorem dX7_set_14 : decode cX7_set 14 = .ok (.iconst 5, 1) := by decide +kernel
theorem dX7_set_15 : decode cX7_set 15 = .ok (.goto 4, 3) := by decide +kernel
theorem dX7_set_18 : decode cX7_set 18 = .ok (.iconst 0, 1) := by decide +kernel
theorem dX7_set_19 : decode cX7_set 19 = .ok (.iload_n 1, 1) := by decide +kernel
theorem dX7_set_20 : decode cX7_set 20 = .ok (.ifCond .ne 8, 3) := by decide +kernel
theorem dX7_set_23 : decode cX7_set 23 = .ok (.bipush 60, 2) := by decide +kernel
theorem dX7_set_25 : decode cX7_set 25 = .ok (.goto 4, 3) := by decide +kernel
theorem dX7_set_28 : decode cX7_set 28 = .ok (.iconst 5, 1) := by decide +kernel
theorem dX7_set_29 : decode cX7_set 29 = .ok (.invokestatic 37, 3) := by decide +kernel
theorem dX7_set_32 : decode cX7_set 32 = .ok (.ifCond .ne 5, 3) := by decide +kernel
theorem dX7_set_35 : decode cX7_set 35 = .ok (.iconst (-1), 1) := by decide +kernel
theorem dX7_set_36 : decode cX7_set 36 = .ok (.ireturn, 1) := by decide +kernel
theorem dX7_set_37 : decode cX7_set 37 = .ok (.iload_n 1, 1) := by decide +kernel
theorem dX7_set_38 : decode cX7_set 38 = .ok (.ifCond .ne 13, 3) := by decide +kernel
theorem dX7_set_41 : decode cX7_set 41 = .ok (.aload_n 0, 1) := by decide +kernel
theorem dX7_set_42 : decode cX7_set 42 = .ok (.invokevirtual 59, 3) := by decide +kernel
theorem dX7_set_45 : decode cX7_set 45 = .ok (.ifCond .le 6, 3) := by decide +kernel
theorem dX7_set_48 : decode cX7_set 48 = .ok (.bipush (-2), 2) := by decide +kernel
theorem dX7_set_50 : decode cX7_set 50 = .ok (.ireturn, 1) := by decide +kernel
theorem dX7_set_51 : decode cX7_set 51 = .ok (.aload_n 0, 1) := by decide +kernel
theorem dX7_set_52 : decode cX7_set 52 = .ok (.invokevirtual 62, 3) := by decide +kernel
theorem dX7_set_55 : decode cX7_set 55 = .ok (.aload_n 0, 1) := by decide +kernel
theorem dX7_set_56 : decode cX7_set 56 = .ok (.getfield 7, 3) := by decide +kernel
theorem dX7_set_59 : decode cX7_set 59 = .ok (.iconst 2, 1) := by decide +kernel
theorem dX7_set_60 : decode cX7_set 60 = .ok (.iload_n 1, 1) := by decide +kernel
theorem dX7_set_61 : decode cX7_set 61 = .ok (.iadd, 1) := by decide +kernel
theorem dX7_set_62 : decode cX7_set 62 = .ok (.iaload, 1) := by decide +kernel
theorem dX7_set_63 : decode cX7_set 63 = .ok (.istore_n 3, 1) := by decide +kernel
theorem dX7_set_64 : decode cX7_set 64 = .ok (.iload_n 1, 1) := by decide +kernel
theorem dX7_set_65 : decode cX7_set 65 = .ok (.ifCond .ne 52, 3) := by decide +kernel
theorem dX7_set_68 : decode cX7_set 68 = .ok (.aload_n 0, 1) := by decide +kernel
theorem dX7_set_69 : decode cX7_set 69 = .ok (.getfield 7, 3) := by decide +kernel
theorem dX7_set_72 : decode cX7_set 72 = .ok (.bipush 11, 2) := by decide +kernel
theorem dX7_set_74 : decode cX7_set 74 = .ok (.dup2, 1) := by decide +kernel
theorem dX7_set_75 : decode cX7_set 75 = .ok (.iaload, 1) := by decide +kernel
theorem dX7_set_76 : decode cX7_set 76 = .ok (.aload_n 0, 1) := by decide +kernel
theorem dX7_set_77 : decode cX7_set 77 = .ok (.getfield 7, 3) := by decide +kernel
theorem dX7_set_80 : decode cX7_set 80 = .ok (.iconst 2, 1) := by decide +kernel
theorem dX7_set_81 : decode cX7_set 81 = .ok (.iaload, 1) := by decide +kernel
theorem dX7_set_82 : decode cX7_set 82 = .ok (.aload_n 0, 1) := by decide +kernel
theorem dX7_set_83 : decode cX7_set 83 = .ok (.invokevirtual 65, 3) := by decide +kernel
theorem dX7_set_86 : decode cX7_set 86 = .ok (.imul, 1) := by decide +kernel
theorem dX7_set_87 : decode cX7_set 87 = .ok (.iadd, 1) := by decide +kernel
theorem dX7_set_88 : decode cX7_set 88 = .ok (.iastore, 1) := by decide +kernel
theorem dX7_set_89 : decode cX7_set 89 = .ok (.iconst 0, 1) := by decide +kernel
theorem dX7_set_90 : decode cX7_set 90 = .ok (.istore 4, 2) := by decide +kernel
theorem dX7_set_92 : decode cX7_set 92 = .ok (.iload 4, 2) := by decide +kernel
theorem dX7_set_94 : decode cX7_set 94 = .ok (.bipush 100, 2) := by decide +kernel
theorem dX7_set_96 : decode cX7_set 96 = .ok (.if_icmp .ge 21, 3) := by decide +kernel
theorem dX7_set_99 : decode cX7_set 99 = .ok (.aload_n 0, 1) := by decide +kernel
theorem dX7_set_100 : decode cX7_set 100 = .ok (.getfield 7, 3) := by decide +kernel
theorem dX7_set_103 : decode cX7_set 103 = .ok (.sipush 308, 3) := by decide +kernel
theorem dX7_set_106 : decode cX7_set 106 = .ok (.iload 4, 2) := by decide +kernel
theorem dX7_set_108 : decode cX7_set 108 = .ok (.iadd, 1) := by decide +kernel
theorem dX7_set_109 : decode cX7_set 109 = .ok (.iconst 0, 1) := by decide +kernel
theorem dX7_set_110 : decode cX7_set 110 = .ok (.iastore, 1) := by decide +kernel
theorem dX7_set_111 : decode cX7_set 111 = .ok (.iinc 4 1, 3) := by decide +kernel
theorem dX7_set_114 : decode cX7_set 114 = .ok (.goto (-22), 3) := by decide +kernel
theorem dX7_set_117 : decode cX7_set 117 = .ok (.aload_n 0, 1) := by decide +kernel
theorem dX7_set_118 : decode cX7_set 118 = .ok (.getfield 7, 3) := by decide +kernel
theorem dX7_set_121 : decode cX7_set 121 = .ok (.iconst 2, 1) := by decide +kernel
theorem dX7_set_122 : decode cX7_set 122 = .ok (.iload_n 1, 1) := by decide +kernel
theorem dX7_set_123 : decode cX7_set 123 = .ok (.iadd, 1) := by decide +kernel
theorem dX7_set_124 : decode cX7_set 124 = .ok (.iload_n 2, 1) := by decide +kernel
theorem dX7_set_125 : decode cX7_set 125 = .ok (.iastore, 1) := by decide +kernel
theorem dX7_set_126 : decode cX7_set 126 = .ok (.iload_n 3, 1) := by decide +kernel
theorem dX7_set_127 : decode cX7_set 127 = .ok (.ireturn, 1) := by decide +kernel
theorem dX7_way_0 : decode cX7_way 0 = .ok (.iload_n 1, 1) := by decide +kernel
theorem dX7_way_1 : decode cX7_way 1 = .ok (.iconst 0, 1) := by decide +kernel
theorem dX7_way_2 : decode cX7_way 2 = .ok (.iconst 2, 1) := by decide +kernel
theorem dX7_way_3 : decode cX7_way 3 = .ok (.invokestatic 37, 3) := by decide +kernel
theorem dX7_way_6 : decode cX7_way 6 = .ok (.ifCond .ne 5, 3) := by decide +kernel
theorem dX7_way_9 : decode cX7_way 9 = .ok (.iconst (-1), 1) := by decide +kernel
theorem dX7_way_10 : decode cX7_way 10 = .ok (.ireturn, 1) := by decide +kernel
theorem dX7_way_11 : decode cX7_way 11 = .ok (.aload_n 0, 1) := by decide +kernel
theorem dX7_way_12 : decode cX7_way 12 = .ok (.invokevirtual 59, 3) := by decide +kernel
theorem dX7_way_15 : decode cX7_way 15 = .ok (.ifCond .le 6, 3) := by decide +kernel
theorem dX7_way_18 : decode cX7_way 18 = .ok (.bipush (-2), 2) := by decide +kernel
theorem dX7_way_20 : decode cX7_way 20 = .ok (.ireturn, 1) := by decide +kernel
theorem dX7_way_21 : decode cX7_way 21 = .ok (.aload_n 0, 1) := by decide +kernel
theorem dX7_way_22 : decode cX7_way 22 = .ok (.invokevirtual 62, 3) := by decide +kernel
theorem dX7_way_25 : decode cX7_way 25 = .ok (.aload_n 0, 1) := by decide +kernel
theorem dX7_way_26 : decode cX7_way 26 = .ok (.getfield 7, 3) := by decide +kernel
theorem dX7_way_29 : decode cX7_way 29 = .ok (.iconst 5, 1) := by decide +kernel
theorem dX7_way_30 : decode cX7_way 30 = .ok (.iaload, 1) := by decide +kernel
theorem dX7_way_31 : decode cX7_way 31 = .ok (.istore_n 2, 1) := by decide +kernel
theorem dX7_way_32 : decode cX7_way 32 = .ok (.aload_n 0, 1) := by decide +kernel
theorem dX7_way_33 : decode cX7_way 33 = .ok (.getfield 7, 3) := by decide +kernel
theorem dX7_way_36 : decode cX7_way 36 = .ok (.iconst 5, 1) := by decide +kernel
theorem dX7_way_37 : decode cX7_way 37 = .ok (.iload_n 1, 1) := by decide +kernel
theorem dX7_way_38 : decode cX7_way 38 = .ok (.iastore, 1) := by decide +kernel
theorem dX7_way_39 : decode cX7_way 39 = .ok (.iload_n 2, 1) := by decide +kernel
theorem dX7_way_40 : decode cX7_way 40 = .ok (.ireturn, 1) := by decide +kernel
theorem dX7_want_0 : decode cX7_want 0 = .ok (.aload_n 0, 1) := by decide +kernel
theorem dX7_want_1 : decode cX7_want 1 = .ok (.iload_n 1, 1) := by decide +kernel
theorem dX7_want_2 : decode cX7_want 2 = .ok (.iload_n 2, 1) := by decide +kernel
theorem dX7_want_3 : decode cX7_want 3 = .ok (.invokevirtual 68, 3) := by decide +kernel
theorem dX7_want_6 : decode cX7_want 6 = .ok (.ifCond .eq 13, 3) := by decide +kernel
theorem dX7_want_9 : decode cX7_want 9 = .ok (.iload_n 3, 1) := by decide +kernel
theorem dX7_want_10 : decode cX7_want 10 = .ok (.iconst 0, 1) := by decide +kernel
theorem dX7_want_11 : decode cX7_want 11 = .ok (.bipush 99, 2) := by decide +kernel
theorem dX7_want_13 : decode cX7_want 13 = .ok (.invokestatic 37, 3) := by decide +kernel
theorem dX7_want_16 : decode cX7_want 16 = .ok (.ifCond .ne 5, 3) := by decide +kernel
theorem dX7_want_19 : decode cX7_want 19 = .ok (.iconst (-1), 1) := by decide +kernel
theorem dX7_want_20 : decode cX7_want 20 = .ok (.ireturn, 1) := by decide +kernel
theorem dX7_want_21 : decode cX7_want 21 = .ok (.iload_n 1, 1) := by decide +kernel
theorem dX7_want_22 : decode cX7_want 22 = .ok (.iload_n 2, 1) := by decide +kernel
theorem dX7_want_23 : decode cX7_want 23 = .ok (.aload_n 0, 1) := by decide +kernel
theorem dX7_want_24 : decode cX7_want 24 = .ok (.getfield 7, 3) := by decide +kernel
theorem dX7_want_27 : decode cX7_want 27 = .ok (.iconst 0, 1) := by decide +kernel
theorem dX7_want_28 : decode cX7_want 28 = .ok (.iaload, 1) := by decide +kernel
theorem dX7_want_29 : decode cX7_want 29 = .ok (.imul, 1) := by decide +kernel
theorem dX7_want_30 : decode cX7_want 30 = .ok (.iadd, 1) := by decide +kernel
theorem dX7_want_31 : decode cX7_want 31 = .ok (.istore 4, 2) := by decide +kernel
theorem dX7_want_33 : decode cX7_want 33 = .ok (.aload_n 0, 1) := by decide +kernel
theorem dX7_want_34 : decode cX7_want 34 = .ok (.iload_n 1, 1) := by decide +kernel
theorem dX7_want_35 : decode cX7_want 35 = .ok (.iload_n 2, 1) := by decide +kernel
theorem dX7_want_36 : decode cX7_want 36 = .ok (.invokevirtual 49, 3) := by decide +kernel
theorem dX7_want_39 : decode cX7_want 39 = .ok (.iconst (-1), 1) := by decide +kernel
theorem dX7_want_40 : decode cX7_want 40 = .ok (.if_icmp .ne 18, 3) := by decide +kernel
theorem dX7_want_43 : decode cX7_want 43 = .ok (.aload_n 0, 1) := by decide +kernel
theorem dX7_want_44 : decode cX7_want 44 = .ok (.getfield 7, 3) := by decide +kernel
theorem dX7_want_47 : decode cX7_want 47 = .ok (.sipush 164, 3) := by decide +kernel
theorem dX7_want_50 : decode cX7_want 50 = .ok (.iload 4, 2) := by decide +kernel
theorem dX7_want_52 : decode cX7_want 52 = .ok (.iadd, 1) := by decide +kernel
theorem dX7_want_53 : decode cX7_want 53 = .ok (.iaload, 1) := by decide +kernel
theorem dX7_want_54 : decode cX7_want 54 = .ok (.iconst (-1), 1) := by decide +kernel
theorem dX7_want_55 : decode cX7_want 55 = .ok (.if_icmp .eq 6, 3) := by decide +kernel
theorem dX7_want_58 : decode cX7_want 58 = .ok (.bipush (-2), 2) := by decide +kernel
theorem dX7_want_60 : decode cX7_want 60 = .ok (.ireturn, 1) := by decide +kernel
theorem dX7_want_61 : decode cX7_want 61 = .ok (.aload_n 0, 1) := by decide +kernel
theorem dX7_want_62 : decode cX7_want 62 = .ok (.invokevirtual 62, 3) := by decide +kernel
theorem dX7_want_65 : decode cX7_want 65 = .ok (.aload_n 0, 1) := by decide +kernel
theorem dX7_want_66 : decode cX7_want 66 = .ok (.getfield 7, 3) := by decide +kernel
theorem dX7_want_69 : decode cX7_want 69 = .ok (.bipush 20, 2) := by decide +kernel
theorem dX7_want_71 : decode cX7_want 71 = .ok (.iload 4, 2) := by decide +kernel
theorem dX7_want_73 : decode cX7_want 73 = .ok (.iadd, 1) := by decide +kernel
theorem dX7_want_74 : decode cX7_want 74 = .ok (.iaload, 1) := by decide +kernel
theorem dX7_want_75 : decode cX7_want 75 = .ok (.istore 5, 2) := by decide +kernel
theorem dX7_want_77 : decode cX7_want 77 = .ok (.aload_n 0, 1) := by decide +kernel
theorem dX7_want_78 : decode cX7_want 78 = .ok (.getfield 7, 3) := by decide +kernel
theorem dX7_want_81 : decode cX7_want 81 = .ok (.bipush 20, 2) := by decide +kernel
theorem dX7_want_83 : decode cX7_want 83 = .ok (.iload 4, 2) := by decide +kernel
theorem dX7_want_85 : decode cX7_want 85 = .ok (.iadd, 1) := by decide +kernel
theorem dX7_want_86 : decode cX7_want 86 = .ok (.iload_n 3, 1) := by decide +kernel
theorem dX7_want_87 : decode cX7_want 87 = .ok (.iastore, 1) := by decide +kernel
theorem dX7_want_88 : decode cX7_want 88 = .ok (.iload 5, 2) := by decide +kernel
theorem dX7_want_90 : decode cX7_want 90 = .ok (.ireturn, 1) := by decide +kernel
theorem dX7_difference_0 : decode cX7_difference 0 = .ok (.aload_n 0, 1) := by decide +kernel
theorem dX7_difference_1 : decode cX7_difference 1 = .ok (.iload_n 1, 1) := by decide +kernel
theorem dX7_difference_2 : decode cX7_difference 2 = .ok (.invokevirtual 72, 3) := by decide +kernel
theorem dX7_difference_5 : decode cX7_difference 5 = .ok (.aload_n 0, 1) := by decide +kernel
theorem dX7_difference_6 : decode cX7_difference 6 = .ok (.getfield 7, 3) := by decide +kernel
theorem dX7_difference_9 : decode cX7_difference 9 = .ok (.sipush 164, 3) := by decide +kernel
theorem dX7_difference_12 : decode cX7_difference 12 = .ok (.iload_n 1, 1) := by decide +kernel
theorem dX7_difference_13 : decode cX7_difference 13 = .ok (.iadd, 1) := by decide +kernel
theorem dX7_difference_14 : decode cX7_difference 14 = .ok (.iaload, 1) := by decide +kernel
theorem dX7_difference_15 : decode cX7_difference 15 = .ok (.isub, 1) := by decide +kernel
theorem dX7_difference_16 : decode cX7_difference 16 = .ok (.invokestatic 75, 3) := by decide +kernel
theorem dX7_difference_19 : decode cX7_difference 19 = .ok (.ireturn, 1) := by decide +kernel
theorem dX7_cellOf_0 : decode cX7_cellOf 0 = .ok (.iload_n 1, 1) := by decide +kernel
theorem dX7_cellOf_1 : decode cX7_cellOf 1 = .ok (.iload_n 2, 1) := by decide +kernel
theorem dX7_cellOf_2 : decode cX7_cellOf 2 = .ok (.aload_n 0, 1) := by decide +kernel
theorem dX7_cellOf_3 : decode cX7_cellOf 3 = .ok (.getfield 7, 3) := by decide +kernel
theorem dX7_cellOf_6 : decode cX7_cellOf 6 = .ok (.iconst 0, 1) := by decide +kernel
theorem dX7_cellOf_7 : decode cX7_cellOf 7 = .ok (.iaload, 1) := by decide +kernel
theorem dX7_cellOf_8 : decode cX7_cellOf 8 = .ok (.imul, 1) := by decide +kernel
theorem dX7_cellOf_9 : decode cX7_cellOf 9 = .ok (.iadd, 1) := by decide +kernel
theorem dX7_cellOf_10 : decode cX7_cellOf 10 = .ok (.istore 4, 2) := by decide +kernel
theorem dX7_cellOf_12 : decode cX7_cellOf 12 = .ok (.iload_n 3, 1) := by decide +kernel
theorem dX7_cellOf_13 : decode cX7_cellOf 13 = .ok (.tableswitch 93 0 2 #[27, 34, 66], 27) := by decide +kernel
theorem dX7_cellOf_40 : decode cX7_cellOf 40 = .ok (.aload_n 0, 1) := by decide +kernel
theorem dX7_cellOf_41 : decode cX7_cellOf 41 = .ok (.iload 4, 2) := by decide +kernel
theorem dX7_cellOf_43 : decode cX7_cellOf 43 = .ok (.invokevirtual 72, 3) := by decide +kernel
theorem dX7_cellOf_46 : decode cX7_cellOf 46 = .ok (.ireturn, 1) := by decide +kernel
theorem dX7_cellOf_47 : decode cX7_cellOf 47 = .ok (.aload_n 0, 1) := by decide +kernel
theorem dX7_cellOf_48 : decode cX7_cellOf 48 = .ok (.getfield 7, 3) := by decide +kernel
theorem dX7_cellOf_51 : decode cX7_cellOf 51 = .ok (.sipush 164, 3) := by decide +kernel
theorem dX7_cellOf_54 : decode cX7_cellOf 54 = .ok (.iload 4, 2) := by decide +kernel
theorem dX7_cellOf_56 : decode cX7_cellOf 56 = .ok (.iadd, 1) := by decide +kernel
theorem dX7_cellOf_57 : decode cX7_cellOf 57 = .ok (.iaload, 1) := by decide +kernel
theorem dX7_cellOf_58 : decode cX7_cellOf 58 = .ok (.iconst (-1), 1) := by decide +kernel
theorem dX7_cellOf_59 : decode cX7_cellOf 59 = .ok (.if_icmp .ne 8, 3) := by decide +kernel
theorem dX7_cellOf_62 : decode cX7_cellOf 62 = .ok (.bipush (-4), 2) := by decide +kernel
theorem dX7_cellOf_64 : decode cX7_cellOf 64 = .ok (.goto 14, 3) := by decide +kernel
theorem dX7_cellOf_67 : decode cX7_cellOf 67 = .ok (.aload_n 0, 1) := by decide +kernel
theorem dX7_cellOf_68 : decode cX7_cellOf 68 = .ok (.getfield 7, 3) := by decide +kernel
theorem dX7_cellOf_71 : decode cX7_cellOf 71 = .ok (.sipush 164, 3) := by decide +kernel
theorem dX7_cellOf_74 : decode cX7_cellOf 74 = .ok (.iload 4, 2) := by decide +kernel
theorem dX7_cellOf_76 : decode cX7_cellOf 76 = .ok (.iadd, 1) := by decide +kernel
theorem dX7_cellOf_77 : decode cX7_cellOf 77 = .ok (.iaload, 1) := by decide +kernel
theorem dX7_cellOf_78 : decode cX7_cellOf 78 = .ok (.ireturn, 1) := by decide +kernel
theorem dX7_cellOf_79 : decode cX7_cellOf 79 = .ok (.aload_n 0, 1) := by decide +kernel
theorem dX7_cellOf_80 : decode cX7_cellOf 80 = .ok (.getfield 7, 3) := by decide +kernel
theorem dX7_cellOf_83 : decode cX7_cellOf 83 = .ok (.sipush 164, 3) := by decide +kernel
theorem dX7_cellOf_86 : decode cX7_cellOf 86 = .ok (.iload 4, 2) := by decide +kernel
theorem dX7_cellOf_88 : decode cX7_cellOf 88 = .ok (.iadd, 1) := by decide +kernel
theorem dX7_cellOf_89 : decode cX7_cellOf 89 = .ok (.iaload, 1) := by decide +kernel
theorem dX7_cellOf_90 : decode cX7_cellOf 90 = .ok (.iconst (-1), 1) := by decide +kernel
theorem dX7_cellOf_91 : decode cX7_cellOf 91 = .ok (.if_icmp .ne 8, 3) := by decide +kernel
theorem dX7_cellOf_94 : decode cX7_cellOf 94 = .ok (.bipush (-4), 2) := by decide +kernel
theorem dX7_cellOf_96 : decode cX7_cellOf 96 = .ok (.goto 9, 3) := by decide +kernel
theorem dX7_cellOf_99 : decode cX7_cellOf 99 = .ok (.aload_n 0, 1) := by decide +kernel
theorem dX7_cellOf_100 : decode cX7_cellOf 100 = .ok (.iload 4, 2) := by decide +kernel
theorem dX7_cellOf_102 : decode cX7_cellOf 102 = .ok (.invokevirtual 78, 3) := by decide +kernel
theorem dX7_cellOf_105 : decode cX7_cellOf 105 = .ok (.ireturn, 1) := by decide +kernel
theorem dX7_cellOf_106 : decode cX7_cellOf 106 = .ok (.aload_n 0, 1) := by decide +kernel
theorem dX7_cellOf_107 : decode cX7_cellOf 107 = .ok (.iload_n 1, 1) := by decide +kernel
theorem dX7_cellOf_108 : decode cX7_cellOf 108 = .ok (.iload_n 2, 1) := by decide +kernel
theorem dX7_cellOf_109 : decode cX7_cellOf 109 = .ok (.invokevirtual 49, 3) := by decide +kernel
theorem dX7_cellOf_112 : decode cX7_cellOf 112 = .ok (.iconst (-1), 1) := by decide +kernel
theorem dX7_cellOf_113 : decode cX7_cellOf 113 = .ok (.if_icmp .ne 8, 3) := by decide +kernel
theorem dX7_cellOf_116 : decode cX7_cellOf 116 = .ok (.bipush (-4), 2) := by decide +kernel
theorem dX7_cellOf_118 : decode cX7_cellOf 118 = .ok (.goto 9, 3) := by decide +kernel
theorem dX7_cellOf_121 : decode cX7_cellOf 121 = .ok (.aload_n 0, 1) := by decide +kernel
theorem dX7_cellOf_122 : decode cX7_cellOf 122 = .ok (.iload_n 1, 1) := by decide +kernel
theorem dX7_cellOf_123 : decode cX7_cellOf 123 = .ok (.iload_n 2, 1) := by decide +kernel
theorem dX7_cellOf_124 : decode cX7_cellOf 124 = .ok (.invokevirtual 49, 3) := by decide +kernel
theorem dX7_cellOf_127 : decode cX7_cellOf 127 = .ok (.ireturn, 1) := by decide +kernel
theorem dX7_cell_0 : decode cX7_cell 0 = .ok (.aload_n 0, 1) := by decide +kernel
theorem dX7_cell_1 : decode cX7_cell 1 = .ok (.iload_n 1, 1) := by decide +kernel
theorem dX7_cell_2 : decode cX7_cell 2 = .ok (.iload_n 2, 1) := by decide +kernel
theorem dX7_cell_3 : decode cX7_cell 3 = .ok (.invokevirtual 68, 3) := by decide +kernel
theorem dX7_cell_6 : decode cX7_cell 6 = .ok (.ifCond .eq 22, 3) := by decide +kernel
theorem dX7_cell_9 : decode cX7_cell 9 = .ok (.iload_n 3, 1) := by decide +kernel
theorem dX7_cell_10 : decode cX7_cell 10 = .ok (.iconst 0, 1) := by decide +kernel
theorem dX7_cell_11 : decode cX7_cell 11 = .ok (.iconst 3, 1) := by decide +kernel
theorem dX7_cell_12 : decode cX7_cell 12 = .ok (.invokestatic 37, 3) := by decide +kernel
theorem dX7_cell_15 : decode cX7_cell 15 = .ok (.ifCond .eq 13, 3) := by decide +kernel
theorem dX7_cell_18 : decode cX7_cell 18 = .ok (.aload_n 0, 1) := by decide +kernel
theorem dX7_cell_19 : decode cX7_cell 19 = .ok (.iload_n 1, 1) := by decide +kernel
theorem dX7_cell_20 : decode cX7_cell 20 = .ok (.iload_n 2, 1) := by decide +kernel
theorem dX7_cell_21 : decode cX7_cell 21 = .ok (.iload_n 3, 1) := by decide +kernel
theorem dX7_cell_22 : decode cX7_cell 22 = .ok (.invokevirtual 81, 3) := by decide +kernel
theorem dX7_cell_25 : decode cX7_cell 25 = .ok (.goto 4, 3) := by decide +kernel
theorem dX7_cell_28 : decode cX7_cell 28 = .ok (.iconst (-1), 1) := by decide +kernel
theorem dX7_cell_29 : decode cX7_cell 29 = .ok (.ireturn, 1) := by decide +kernel
theorem dX7_differences_0 : decode cX7_differences 0 = .ok (.iconst 0, 1) := by decide +kernel
theorem dX7_differences_1 : decode cX7_differences 1 = .ok (.istore_n 2, 1) := by decide +kernel
theorem dX7_differences_2 : decode cX7_differences 2 = .ok (.bipush (-4), 2) := by decide +kernel
theorem dX7_differences_4 : decode cX7_differences 4 = .ok (.istore_n 3, 1) := by decide +kernel
theorem dX7_differences_5 : decode cX7_differences 5 = .ok (.iconst 0, 1) := by decide +kernel
theorem dX7_differences_6 : decode cX7_differences 6 = .ok (.istore 4, 2) := by decide +kernel
theorem dX7_differences_8 : decode cX7_differences 8 = .ok (.iload 4, 2) := by decide +kernel
theorem dX7_differences_10 : decode cX7_differences 10 = .ok (.aload_n 0, 1) := by decide +kernel
theorem dX7_differences_11 : decode cX7_differences 11 = .ok (.invokevirtual 41, 3) := by decide +kernel
theorem dX7_differences_14 : decode cX7_differences 14 = .ok (.if_icmp .ge 54, 3) := by decide +kernel
theorem dX7_differences_17 : decode cX7_differences 17 = .ok (.aload_n 0, 1) := by decide +kernel
theorem dX7_differences_18 : decode cX7_differences 18 = .ok (.getfield 7, 3) := by decide +kernel
theorem dX7_differences_21 : decode cX7_differences 21 = .ok (.sipush 164, 3) := by decide +kernel
theorem dX7_differences_24 : decode cX7_differences 24 = .ok (.iload 4, 2) := by decide +kernel
theorem dX7_differences_26 : decode cX7_differences 26 = .ok (.iadd, 1) := by decide +kernel
theorem dX7_differences_27 : decode cX7_differences 27 = .ok (.iaload, 1) := by decide +kernel
theorem dX7_differences_28 : decode cX7_differences 28 = .ok (.iconst (-1), 1) := by decide +kernel
theorem dX7_differences_29 : decode cX7_differences 29 = .ok (.if_icmp .eq 33, 3) := by decide +kernel
theorem dX7_differences_32 : decode cX7_differences 32 = .ok (.iload_n 2, 1) := by decide +kernel
theorem dX7_differences_33 : decode cX7_differences 33 = .ok (.aload_n 0, 1) := by decide +kernel
theorem dX7_differences_34 : decode cX7_differences 34 = .ok (.iload 4, 2) := by decide +kernel
theorem dX7_differences_36 : decode cX7_differences 36 = .ok (.invokevirtual 78, 3) := by decide +kernel
theorem dX7_differences_39 : decode cX7_differences 39 = .ok (.iadd, 1) := by decide +kernel
theorem dX7_differences_40 : decode cX7_differences 40 = .ok (.istore_n 2, 1) := by decide +kernel
theorem dX7_differences_41 : decode cX7_differences 41 = .ok (.aload_n 0, 1) := by decide +kernel
theorem dX7_differences_42 : decode cX7_differences 42 = .ok (.iload 4, 2) := by decide +kernel
theorem dX7_differences_44 : decode cX7_differences 44 = .ok (.invokevirtual 78, 3) := by decide +kernel
theorem dX7_differences_47 : decode cX7_differences 47 = .ok (.iload_n 3, 1) := by decide +kernel
theorem dX7_differences_48 : decode cX7_differences 48 = .ok (.if_icmp .le 12, 3) := by decide +kernel
theorem dX7_differences_51 : decode cX7_differences 51 = .ok (.aload_n 0, 1) := by decide +kernel
theorem dX7_differences_52 : decode cX7_differences 52 = .ok (.iload 4, 2) := by decide +kernel
theorem dX7_differences_54 : decode cX7_differences 54 = .ok (.invokevirtual 78, 3) := by decide +kernel
theorem dX7_differences_57 : decode cX7_differences 57 = .ok (.goto 4, 3) := by decide +kernel
theorem dX7_differences_60 : decode cX7_differences 60 = .ok (.iload_n 3, 1) := by decide +kernel
theorem dX7_differences_61 : decode cX7_differences 61 = .ok (.istore_n 3, 1) := by decide +kernel
theorem dX7_differences_62 : decode cX7_differences 62 = .ok (.iinc 4 1, 3) := by decide +kernel
theorem dX7_differences_65 : decode cX7_differences 65 = .ok (.goto (-57), 3) := by decide +kernel
theorem dX7_differences_68 : decode cX7_differences 68 = .ok (.iload_n 1, 1) := by decide +kernel
theorem dX7_differences_69 : decode cX7_differences 69 = .ok (.ifCond .eq 7, 3) := by decide +kernel
theorem dX7_differences_72 : decode cX7_differences 72 = .ok (.iload_n 3, 1) := by decide +kernel
theorem dX7_differences_73 : decode cX7_differences 73 = .ok (.goto 4, 3) := by decide +kernel
theorem dX7_differences_76 : decode cX7_differences 76 = .ok (.iload_n 2, 1) := by decide +kernel
theorem dX7_differences_77 : decode cX7_differences 77 = .ok (.ireturn, 1) := by decide +kernel
theorem dX7_account_0 : decode cX7_account 0 = .ok (.iconst 0, 1) := by decide +kernel
theorem dX7_account_1 : decode cX7_account 1 = .ok (.istore_n 2, 1) := by decide +kernel
theorem dX7_account_2 : decode cX7_account 2 = .ok (.iconst 0, 1) := by decide +kernel
theorem dX7_account_3 : decode cX7_account 3 = .ok (.istore_n 3, 1) := by decide +kernel
theorem dX7_account_4 : decode cX7_account 4 = .ok (.iconst 0, 1) := by decide +kernel
theorem dX7_account_5 : decode cX7_account 5 = .ok (.istore 4, 2) := by decide +kernel
theorem dX7_account_7 : decode cX7_account 7 = .ok (.iload 4, 2) := by decide +kernel
theorem dX7_account_9 : decode cX7_account 9 = .ok (.aload_n 0, 1) := by decide +kernel
theorem dX7_account_10 : decode cX7_account 10 = .ok (.getfield 7, 3) := by decide +kernel
theorem dX7_account_13 : decode cX7_account 13 = .ok (.bipush 6, 2) := by decide +kernel
theorem dX7_account_15 : decode cX7_account 15 = .ok (.iaload, 1) := by decide +kernel
theorem dX7_account_16 : decode cX7_account 16 = .ok (.if_icmp .ge 28, 3) := by decide +kernel
theorem dX7_account_19 : decode cX7_account 19 = .ok (.iload_n 2, 1) := by decide +kernel
theorem dX7_account_20 : decode cX7_account 20 = .ok (.aload_n 0, 1) := by decide +kernel
theorem dX7_account_21 : decode cX7_account 21 = .ok (.iload 4, 2) := by decide +kernel
theorem dX7_account_23 : decode cX7_account 23 = .ok (.iconst 0, 1) := by decide +kernel
theorem dX7_account_24 : decode cX7_account 24 = .ok (.invokevirtual 85, 3) := by decide +kernel
theorem dX7_account_27 : decode cX7_account 27 = .ok (.iadd, 1) := by decide +kernel
theorem dX7_account_28 : decode cX7_account 28 = .ok (.istore_n 2, 1) := by decide +kernel
theorem dX7_account_29 : decode cX7_account 29 = .ok (.iload_n 3, 1) := by decide +kernel
theorem dX7_account_30 : decode cX7_account 30 = .ok (.aload_n 0, 1) := by decide +kernel
theorem dX7_account_31 : decode cX7_account 31 = .ok (.iload 4, 2) := by decide +kernel
theorem dX7_account_33 : decode cX7_account 33 = .ok (.invokevirtual 88, 3) := by decide +kernel
theorem dX7_account_36 : decode cX7_account 36 = .ok (.iadd, 1) := by decide +kernel
theorem dX7_account_37 : decode cX7_account 37 = .ok (.istore_n 3, 1) := by decide +kernel
theorem dX7_account_38 : decode cX7_account 38 = .ok (.iinc 4 1, 3) := by decide +kernel
theorem dX7_account_41 : decode cX7_account 41 = .ok (.goto (-34), 3) := by decide +kernel
theorem dX7_account_44 : decode cX7_account 44 = .ok (.iload_n 1, 1) := by decide +kernel
theorem dX7_account_45 : decode cX7_account 45 = .ok (.tableswitch 59 0 3 #[31, 33, 35, 47], 31) := by decide +kernel
theorem dX7_account_76 : decode cX7_account 76 = .ok (.iload_n 2, 1) := by decide +kernel
theorem dX7_account_77 : decode cX7_account 77 = .ok (.ireturn, 1) := by decide +kernel
theorem dX7_account_78 : decode cX7_account 78 = .ok (.iload_n 3, 1) := by decide +kernel
theorem dX7_account_79 : decode cX7_account 79 = .ok (.ireturn, 1) := by decide +kernel
theorem dX7_account_80 : decode cX7_account 80 = .ok (.aload_n 0, 1) := by decide +kernel
theorem dX7_account_81 : decode cX7_account 81 = .ok (.getfield 7, 3) := by decide +kernel
theorem dX7_account_84 : decode cX7_account 84 = .ok (.iconst 2, 1) := by decide +kernel
theorem dX7_account_85 : decode cX7_account 85 = .ok (.iaload, 1) := by decide +kernel
theorem dX7_account_86 : decode cX7_account 86 = .ok (.aload_n 0, 1) := by decide +kernel
theorem dX7_account_87 : decode cX7_account 87 = .ok (.invokevirtual 65, 3) := by decide +kernel
theorem dX7_account_90 : decode cX7_account 90 = .ok (.imul, 1) := by decide +kernel
theorem dX7_account_91 : decode cX7_account 91 = .ok (.ireturn, 1) := by decide +kernel
theorem dX7_account_92 : decode cX7_account 92 = .ok (.aload_n 0, 1) := by decide +kernel
theorem dX7_account_93 : decode cX7_account 93 = .ok (.getfield 7, 3) := by decide +kernel
theorem dX7_account_96 : decode cX7_account 96 = .ok (.iconst 2, 1) := by decide +kernel
theorem dX7_account_97 : decode cX7_account 97 = .ok (.iaload, 1) := by decide +kernel
theorem dX7_account_98 : decode cX7_account 98 = .ok (.aload_n 0, 1) := by decide +kernel
theorem dX7_account_99 : decode cX7_account 99 = .ok (.invokevirtual 59, 3) := by decide +kernel
theorem dX7_account_102 : decode cX7_account 102 = .ok (.imul, 1) := by decide +kernel
theorem dX7_account_103 : decode cX7_account 103 = .ok (.ireturn, 1) := by decide +kernel
theorem dX7_account_104 : decode cX7_account 104 = .ok (.aload_n 0, 1) := by decide +kernel
theorem dX7_account_105 : decode cX7_account 105 = .ok (.getfield 7, 3) := by decide +kernel
theorem dX7_account_108 : decode cX7_account 108 = .ok (.bipush 9, 2) := by decide +kernel
theorem dX7_account_110 : decode cX7_account 110 = .ok (.iload_n 1, 1) := by decide +kernel
theorem dX7_account_111 : decode cX7_account 111 = .ok (.iadd, 1) := by decide +kernel
theorem dX7_account_112 : decode cX7_account 112 = .ok (.iconst 4, 1) := by decide +kernel
theorem dX7_account_113 : decode cX7_account 113 = .ok (.isub, 1) := by decide +kernel
theorem dX7_account_114 : decode cX7_account 114 = .ok (.iaload, 1) := by decide +kernel
theorem dX7_account_115 : decode cX7_account 115 = .ok (.ireturn, 1) := by decide +kernel
theorem dX7_count_0 : decode cX7_count 0 = .ok (.iload_n 1, 1) := by decide +kernel
theorem dX7_count_1 : decode cX7_count 1 = .ok (.tableswitch 189 0 16 #[83, 83, 90, 95, 95, 104, 117, 122, 122, 138, 146, 151, 159, 167, 172, 177, 177], 83) := by decide +kernel
theorem dX7_count_84 : decode cX7_count 84 = .ok (.aload_n 0, 1) := by decide +kernel
theorem dX7_count_85 : decode cX7_count 85 = .ok (.getfield 7, 3) := by decide +kernel
theorem dX7_count_88 : decode cX7_count 88 = .ok (.iload_n 1, 1) := by decide +kernel
theorem dX7_count_89 : decode cX7_count 89 = .ok (.iaload, 1) := by decide +kernel
theorem dX7_count_90 : decode cX7_count 90 = .ok (.ireturn, 1) := by decide +kernel
theorem dX7_count_91 : decode cX7_count 91 = .ok (.aload_n 0, 1) := by decide +kernel
theorem dX7_count_92 : decode cX7_count 92 = .ok (.invokevirtual 56, 3) := by decide +kernel
theorem dX7_count_95 : decode cX7_count 95 = .ok (.ireturn, 1) := by decide +kernel
theorem dX7_count_96 : decode cX7_count 96 = .ok (.aload_n 0, 1) := by decide +kernel
theorem dX7_count_97 : decode cX7_count 97 = .ok (.getfield 7, 3) := by decide +kernel
theorem dX7_count_100 : decode cX7_count 100 = .ok (.iload_n 1, 1) := by decide +kernel
theorem dX7_count_101 : decode cX7_count 101 = .ok (.iconst 1, 1) := by decide +kernel
theorem dX7_count_102 : decode cX7_count 102 = .ok (.iadd, 1) := by decide +kernel
theorem dX7_count_103 : decode cX7_count 103 = .ok (.iaload, 1) := by decide +kernel
theorem dX7_count_104 : decode cX7_count 104 = .ok (.ireturn, 1) := by decide +kernel
theorem dX7_count_105 : decode cX7_count 105 = .ok (.aload_n 0, 1) := by decide +kernel
theorem dX7_count_106 : decode cX7_count 106 = .ok (.invokevirtual 91, 3) := by decide +kernel
theorem dX7_count_109 : decode cX7_count 109 = .ok (.ifCond .eq 7, 3) := by decide +kernel
theorem dX7_count_112 : decode cX7_count 112 = .ok (.iconst 1, 1) := by decide +kernel
theorem dX7_count_113 : decode cX7_count 113 = .ok (.goto 4, 3) := by decide +kernel
theorem dX7_count_116 : decode cX7_count 116 = .ok (.iconst 0, 1) := by decide +kernel
theorem dX7_count_117 : decode cX7_count 117 = .ok (.ireturn, 1) := by decide +kernel
theorem dX7_count_118 : decode cX7_count 118 = .ok (.aload_n 0, 1) := by decide +kernel
theorem dX7_count_119 : decode cX7_count 119 = .ok (.invokevirtual 59, 3) := by decide +kernel
theorem dX7_count_122 : decode cX7_count 122 = .ok (.ireturn, 1) := by decide +kernel
theorem dX7_count_123 : decode cX7_count 123 = .ok (.aload_n 0, 1) := by decide +kernel
theorem dX7_count_124 : decode cX7_count 124 = .ok (.iload_n 1, 1) := by decide +kernel
theorem dX7_count_125 : decode cX7_count 125 = .ok (.bipush 8, 2) := by decide +kernel
theorem dX7_count_127 : decode cX7_count 127 = .ok (.if_icmp .ne 7, 3) := by decide +kernel
theorem dX7_count_130 : decode cX7_count 130 = .ok (.iconst 1, 1) := by decide +kernel
theorem dX7_count_131 : decode cX7_count 131 = .ok (.goto 4, 3) := by decide +kernel
theorem dX7_count_134 : decode cX7_count 134 = .ok (.iconst 0, 1) := by decide +kernel
theorem dX7_count_135 : decode cX7_count 135 = .ok (.invokevirtual 95, 3) := by decide +kernel
theorem dX7_count_138 : decode cX7_count 138 = .ok (.ireturn, 1) := by decide +kernel
theorem dX7_count_139 : decode cX7_count 139 = .ok (.aload_n 0, 1) := by decide +kernel
theorem dX7_count_140 : decode cX7_count 140 = .ok (.getfield 7, 3) := by decide +kernel
theorem dX7_count_143 : decode cX7_count 143 = .ok (.bipush 6, 2) := by decide +kernel
theorem dX7_count_145 : decode cX7_count 145 = .ok (.iaload, 1) := by decide +kernel
theorem dX7_count_146 : decode cX7_count 146 = .ok (.ireturn, 1) := by decide +kernel
theorem dX7_count_147 : decode cX7_count 147 = .ok (.aload_n 0, 1) := by decide +kernel
theorem dX7_count_148 : decode cX7_count 148 = .ok (.invokevirtual 65, 3) := by decide +kernel
theorem dX7_count_151 : decode cX7_count 151 = .ok (.ireturn, 1) := by decide +kernel
theorem dX7_count_152 : decode cX7_count 152 = .ok (.aload_n 0, 1) := by decide +kernel
theorem dX7_count_153 : decode cX7_count 153 = .ok (.getfield 7, 3) := by decide +kernel
theorem dX7_count_156 : decode cX7_count 156 = .ok (.bipush 8, 2) := by decide +kernel
theorem dX7_count_158 : decode cX7_count 158 = .ok (.iaload, 1) := by decide +kernel
theorem dX7_count_159 : decode cX7_count 159 = .ok (.ireturn, 1) := by decide +kernel
theorem dX7_count_160 : decode cX7_count 160 = .ok (.aload_n 0, 1) := by decide +kernel
theorem dX7_count_161 : decode cX7_count 161 = .ok (.getfield 7, 3) := by decide +kernel
theorem dX7_count_164 : decode cX7_count 164 = .ok (.bipush 7, 2) := by decide +kernel
theorem dX7_count_166 : decode cX7_count 166 = .ok (.iaload, 1) := by decide +kernel
theorem dX7_count_167 : decode cX7_count 167 = .ok (.ireturn, 1) := by decide +kernel
theorem dX7_count_168 : decode cX7_count 168 = .ok (.aload_n 0, 1) := by decide +kernel
theorem dX7_count_169 : decode cX7_count 169 = .ok (.getfield 29, 3) := by decide +kernel
theorem dX7_count_172 : decode cX7_count 172 = .ok (.ireturn, 1) := by decide +kernel
theorem dX7_count_173 : decode cX7_count 173 = .ok (.aload_n 0, 1) := by decide +kernel
theorem dX7_count_174 : decode cX7_count 174 = .ok (.getfield 99, 3) := by decide +kernel
theorem dX7_count_177 : decode cX7_count 177 = .ok (.ireturn, 1) := by decide +kernel
theorem dX7_count_178 : decode cX7_count 178 = .ok (.aload_n 0, 1) := by decide +kernel
theorem dX7_count_179 : decode cX7_count 179 = .ok (.getfield 7, 3) := by decide +kernel
theorem dX7_count_182 : decode cX7_count 182 = .ok (.iconst 2, 1) := by decide +kernel
theorem dX7_count_183 : decode cX7_count 183 = .ok (.iload_n 1, 1) := by decide +kernel
theorem dX7_count_184 : decode cX7_count 184 = .ok (.iadd, 1) := by decide +kernel
theorem dX7_count_185 : decode cX7_count 185 = .ok (.bipush 15, 2) := by decide +kernel
theorem dX7_count_187 : decode cX7_count 187 = .ok (.isub, 1) := by decide +kernel
theorem dX7_count_188 : decode cX7_count 188 = .ok (.iaload, 1) := by decide +kernel
theorem dX7_count_189 : decode cX7_count 189 = .ok (.ireturn, 1) := by decide +kernel
theorem dX7_count_190 : decode cX7_count 190 = .ok (.iload_n 1, 1) := by decide +kernel
theorem dX7_count_191 : decode cX7_count 191 = .ok (.bipush 20, 2) := by decide +kernel
theorem dX7_count_193 : decode cX7_count 193 = .ok (.bipush 26, 2) := by decide +kernel
theorem dX7_count_195 : decode cX7_count 195 = .ok (.invokestatic 37, 3) := by decide +kernel
theorem dX7_count_198 : decode cX7_count 198 = .ok (.ifCond .eq 14, 3) := by decide +kernel
theorem dX7_count_201 : decode cX7_count 201 = .ok (.aload_n 0, 1) := by decide +kernel
theorem dX7_count_202 : decode cX7_count 202 = .ok (.iload_n 1, 1) := by decide +kernel
theorem dX7_count_203 : decode cX7_count 203 = .ok (.bipush 20, 2) := by decide +kernel
theorem dX7_count_205 : decode cX7_count 205 = .ok (.isub, 1) := by decide +kernel
theorem dX7_count_206 : decode cX7_count 206 = .ok (.invokevirtual 102, 3) := by decide +kernel
theorem dX7_count_209 : decode cX7_count 209 = .ok (.goto 4, 3) := by decide +kernel
theorem dX7_count_212 : decode cX7_count 212 = .ok (.iconst (-1), 1) := by decide +kernel
theorem dX7_count_213 : decode cX7_count 213 = .ok (.ireturn, 1) := by decide +kernel
theorem dX7_shade_0 : decode cX7_shade 0 = .ok (.iload_n 1, 1) := by decide +kernel
theorem dX7_shade_1 : decode cX7_shade 1 = .ok (.ifCond .ge 5, 3) := by decide +kernel
theorem dX7_shade_4 : decode cX7_shade 4 = .ok (.iconst (-1), 1) := by decide +kernel
theorem dX7_shade_5 : decode cX7_shade 5 = .ok (.ireturn, 1) := by decide +kernel
theorem dX7_shade_6 : decode cX7_shade 6 = .ok (.iload_n 1, 1) := by decide +kernel
theorem dX7_shade_7 : decode cX7_shade 7 = .ok (.aload_n 0, 1) := by decide +kernel
theorem dX7_shade_8 : decode cX7_shade 8 = .ok (.getfield 7, 3) := by decide +kernel
theorem dX7_shade_11 : decode cX7_shade 11 = .ok (.iconst 4, 1) := by decide +kernel
theorem dX7_shade_12 : decode cX7_shade 12 = .ok (.iaload, 1) := by decide +kernel
theorem dX7_shade_13 : decode cX7_shade 13 = .ok (.if_icmp .ge 15, 3) := by decide +kernel
theorem dX7_shade_16 : decode cX7_shade 16 = .ok (.aload_n 0, 1) := by decide +kernel
theorem dX7_shade_17 : decode cX7_shade 17 = .ok (.getfield 7, 3) := by decide +kernel
theorem dX7_shade_20 : decode cX7_shade 20 = .ok (.bipush 12, 2) := by decide +kernel
theorem dX7_shade_22 : decode cX7_shade 22 = .ok (.iload_n 1, 1) := by decide +kernel
theorem dX7_shade_23 : decode cX7_shade 23 = .ok (.iadd, 1) := by decide +kernel
theorem dX7_shade_24 : decode cX7_shade 24 = .ok (.iaload, 1) := by decide +kernel
theorem dX7_shade_25 : decode cX7_shade 25 = .ok (.goto 5, 3) := by decide +kernel
theorem dX7_shade_28 : decode cX7_shade 28 = .ok (.bipush (-4), 2) := by decide +kernel
theorem dX7_shade_30 : decode cX7_shade 30 = .ok (.ireturn, 1) := by decide +kernel
theorem dX7_undo_0 : decode cX7_undo 0 = .ok (.aload_n 0, 1) := by decide +kernel
theorem dX7_undo_1 : decode cX7_undo 1 = .ok (.getfield 29, 3) := by decide +kernel
theorem dX7_undo_4 : decode cX7_undo 4 = .ok (.ifCond .ne 6, 3) := by decide +kernel
theorem dX7_undo_7 : decode cX7_undo 7 = .ok (.bipush (-2), 2) := by decide +kernel
theorem dX7_undo_9 : decode cX7_undo 9 = .ok (.ireturn, 1) := by decide +kernel
theorem dX7_undo_10 : decode cX7_undo 10 = .ok (.aload_n 0, 1) := by decide +kernel
theorem dX7_undo_11 : decode cX7_undo 11 = .ok (.dup, 1) := by decide +kernel
theorem dX7_undo_12 : decode cX7_undo 12 = .ok (.getfield 29, 3) := by decide +kernel
theorem dX7_undo_15 : decode cX7_undo 15 = .ok (.iconst 1, 1) := by decide +kernel
theorem dX7_undo_16 : decode cX7_undo 16 = .ok (.isub, 1) := by decide +kernel
theorem dX7_undo_17 : decode cX7_undo 17 = .ok (.putfield 29, 3) := by decide +kernel
theorem dX7_undo_20 : decode cX7_undo 20 = .ok (.aload_n 0, 1) := by decide +kernel
theorem dX7_undo_21 : decode cX7_undo 21 = .ok (.getfield 16, 3) := by decide +kernel
theorem dX7_undo_24 : decode cX7_undo 24 = .ok (.sipush 518, 3) := by decide +kernel
theorem dX7_undo_27 : decode cX7_undo 27 = .ok (.aload_n 0, 1) := by decide +kernel
theorem dX7_undo_28 : decode cX7_undo 28 = .ok (.getfield 29, 3) := by decide +kernel
theorem dX7_undo_31 : decode cX7_undo 31 = .ok (.imul, 1) := by decide +kernel
theorem dX7_undo_32 : decode cX7_undo 32 = .ok (.aload_n 0, 1) := by decide +kernel
theorem dX7_undo_33 : decode cX7_undo 33 = .ok (.getfield 7, 3) := by decide +kernel
theorem dX7_undo_36 : decode cX7_undo 36 = .ok (.iconst 0, 1) := by decide +kernel
theorem dX7_undo_37 : decode cX7_undo 37 = .ok (.invokestatic 33, 3) := by decide +kernel
theorem dX7_undo_40 : decode cX7_undo 40 = .ok (.aload_n 0, 1) := by decide +kernel
theorem dX7_undo_41 : decode cX7_undo 41 = .ok (.getfield 29, 3) := by decide +kernel
theorem dX7_undo_44 : decode cX7_undo 44 = .ok (.ireturn, 1) := by decide +kernel
theorem dX7_of_0 : decode cX7_of 0 = .ok (.aload_n 0, 1) := by decide +kernel
theorem dX7_of_1 : decode cX7_of 1 = .ok (.getfield 7, 3) := by decide +kernel
theorem dX7_of_4 : decode cX7_of 4 = .ok (.sipush 408, 3) := by decide +kernel
theorem dX7_of_7 : decode cX7_of 7 = .ok (.bipush 11, 2) := by decide +kernel
theorem dX7_of_9 : decode cX7_of 9 = .ok (.iload_n 1, 1) := by decide +kernel
theorem dX7_of_10 : decode cX7_of 10 = .ok (.imul, 1) := by decide +kernel
theorem dX7_of_11 : decode cX7_of 11 = .ok (.iadd, 1) := by decide +kernel
theorem dX7_of_12 : decode cX7_of 12 = .ok (.iload_n 2, 1) := by decide +kernel
theorem dX7_of_13 : decode cX7_of 13 = .ok (.iadd, 1) := by decide +kernel
theorem dX7_of_14 : decode cX7_of 14 = .ok (.iaload, 1) := by decide +kernel
theorem dX7_of_15 : decode cX7_of 15 = .ok (.ireturn, 1) := by decide +kernel
theorem dX7_put_0 : decode cX7_put 0 = .ok (.aload_n 0, 1) := by decide +kernel
theorem dX7_put_1 : decode cX7_put 1 = .ok (.getfield 7, 3) := by decide +kernel
theorem dX7_put_4 : decode cX7_put 4 = .ok (.sipush 408, 3) := by decide +kernel
theorem dX7_put_7 : decode cX7_put 7 = .ok (.bipush 11, 2) := by decide +kernel
theorem dX7_put_9 : decode cX7_put 9 = .ok (.iload_n 1, 1) := by decide +kernel
theorem dX7_put_10 : decode cX7_put 10 = .ok (.imul, 1) := by decide +kernel
theorem dX7_put_11 : decode cX7_put 11 = .ok (.iadd, 1) := by decide +kernel
theorem dX7_put_12 : decode cX7_put 12 = .ok (.iload_n 2, 1) := by decide +kernel
theorem dX7_put_13 : decode cX7_put 13 = .ok (.iadd, 1) := by decide +kernel
theorem dX7_put_14 : decode cX7_put 14 = .ok (.iload_n 3, 1) := by decide +kernel
theorem dX7_put_15 : decode cX7_put 15 = .ok (.iastore, 1) := by decide +kernel
theorem dX7_put_16 : decode cX7_put 16 = .ok (.return_, 1) := by decide +kernel
theorem dX7_isStrip_0 : decode cX7_isStrip 0 = .ok (.iload_n 1, 1) := by decide +kernel
theorem dX7_isStrip_1 : decode cX7_isStrip 1 = .ok (.iconst 0, 1) := by decide +kernel
theorem dX7_isStrip_2 : decode cX7_isStrip 2 = .ok (.aload_n 0, 1) := by decide +kernel
theorem dX7_isStrip_3 : decode cX7_isStrip 3 = .ok (.getfield 7, 3) := by decide +kernel
theorem dX7_isStrip_6 : decode cX7_isStrip 6 = .ok (.bipush 6, 2) := by decide +kernel
theorem dX7_isStrip_8 : decode cX7_isStrip 8 = .ok (.iaload, 1) := by decide +kernel
theorem dX7_isStrip_9 : decode cX7_isStrip 9 = .ok (.iconst 1, 1) := by decide +kernel
theorem dX7_isStrip_10 : decode cX7_isStrip 10 = .ok (.isub, 1) := by decide +kernel
theorem dX7_isStrip_11 : decode cX7_isStrip 11 = .ok (.invokestatic 37, 3) := by decide +kernel
theorem dX7_isStrip_14 : decode cX7_isStrip 14 = .ok (.ireturn, 1) := by decide +kernel
theorem dX7_left_0 : decode cX7_left 0 = .ok (.aload_n 0, 1) := by decide +kernel
theorem dX7_left_1 : decode cX7_left 1 = .ok (.iload_n 1, 1) := by decide +kernel
theorem dX7_left_2 : decode cX7_left 2 = .ok (.iconst 0, 1) := by decide +kernel
theorem dX7_left_3 : decode cX7_left 3 = .ok (.invokevirtual 85, 3) := by decide +kernel
theorem dX7_left_6 : decode cX7_left 6 = .ok (.aload_n 0, 1) := by decide +kernel
theorem dX7_left_7 : decode cX7_left 7 = .ok (.iload_n 1, 1) := by decide +kernel
theorem dX7_left_8 : decode cX7_left 8 = .ok (.iconst 2, 1) := by decide +kernel
theorem dX7_left_9 : decode cX7_left 9 = .ok (.invokevirtual 85, 3) := by decide +kernel
theorem dX7_left_12 : decode cX7_left 12 = .ok (.isub, 1) := by decide +kernel
theorem dX7_left_13 : decode cX7_left 13 = .ok (.ireturn, 1) := by decide +kernel
theorem dX7_strip_0 : decode cX7_strip 0 = .ok (.iload_n 1, 1) := by decide +kernel
theorem dX7_strip_1 : decode cX7_strip 1 = .ok (.bipush 20, 2) := by decide +kernel
theorem dX7_strip_3 : decode cX7_strip 3 = .ok (.sipush 1000, 3) := by decide +kernel
theorem dX7_strip_6 : decode cX7_strip 6 = .ok (.invokestatic 37, 3) := by decide +kernel
theorem dX7_strip_9 : decode cX7_strip 9 = .ok (.ifCond .eq 13, 3) := by decide +kernel
theorem dX7_strip_12 : decode cX7_strip 12 = .ok (.iload_n 2, 1) := by decide +kernel
theorem dX7_strip_13 : decode cX7_strip 13 = .ok (.iconst 0, 1) := by decide +kernel
theorem dX7_strip_14 : decode cX7_strip 14 = .ok (.bipush 99, 2) := by decide +kernel
theorem dX7_strip_16 : decode cX7_strip 16 = .ok (.invokestatic 37, 3) := by decide +kernel
theorem dX7_strip_19 : decode cX7_strip 19 = .ok (.ifCond .ne 5, 3) := by decide +kernel
theorem dX7_strip_22 : decode cX7_strip 22 = .ok (.iconst (-1), 1) := by decide +kernel
theorem dX7_strip_23 : decode cX7_strip 23 = .ok (.ireturn, 1) := by decide +kernel
theorem dX7_strip_24 : decode cX7_strip 24 = .ok (.aload_n 0, 1) := by decide +kernel
theorem dX7_strip_25 : decode cX7_strip 25 = .ok (.getfield 7, 3) := by decide +kernel
theorem dX7_strip_28 : decode cX7_strip 28 = .ok (.bipush 6, 2) := by decide +kernel
theorem dX7_strip_30 : decode cX7_strip 30 = .ok (.iaload, 1) := by decide +kernel
theorem dX7_strip_31 : decode cX7_strip 31 = .ok (.bipush 10, 2) := by decide +kernel
theorem dX7_strip_33 : decode cX7_strip 33 = .ok (.if_icmp .ne 6, 3) := by decide +kernel
theorem dX7_strip_36 : decode cX7_strip 36 = .ok (.bipush (-3), 2) := by decide +kernel
theorem dX7_strip_38 : decode cX7_strip 38 = .ok (.ireturn, 1) := by decide +kernel
theorem dX7_strip_39 : decode cX7_strip 39 = .ok (.aload_n 0, 1) := by decide +kernel
theorem dX7_strip_40 : decode cX7_strip 40 = .ok (.invokevirtual 62, 3) := by decide +kernel
theorem dX7_strip_43 : decode cX7_strip 43 = .ok (.aload_n 0, 1) := by decide +kernel
theorem dX7_strip_44 : decode cX7_strip 44 = .ok (.getfield 7, 3) := by decide +kernel
theorem dX7_strip_47 : decode cX7_strip 47 = .ok (.bipush 6, 2) := by decide +kernel
theorem dX7_strip_49 : decode cX7_strip 49 = .ok (.iaload, 1) := by decide +kernel
theorem dX7_strip_50 : decode cX7_strip 50 = .ok (.istore_n 3, 1) := by decide +kernel
theorem dX7_strip_51 : decode cX7_strip 51 = .ok (.aload_n 0, 1) := by decide +kernel
theorem dX7_strip_52 : decode cX7_strip 52 = .ok (.getfield 7, 3) := by decide +kernel
theorem dX7_strip_55 : decode cX7_strip 55 = .ok (.bipush 6, 2) := by decide +kernel
theorem dX7_strip_57 : decode cX7_strip 57 = .ok (.dup2, 1) := by decide +kernel
theorem dX7_strip_58 : decode cX7_strip 58 = .ok (.iaload, 1) := by decide +kernel
theorem dX7_strip_59 : decode cX7_strip 59 = .ok (.iconst 1, 1) := by decide +kernel
theorem dX7_strip_60 : decode cX7_strip 60 = .ok (.iadd, 1) := by decide +kernel
theorem dX7_strip_61 : decode cX7_strip 61 = .ok (.iastore, 1) := by decide +kernel
theorem dX7_strip_62 : decode cX7_strip 62 = .ok (.aload_n 0, 1) := by decide +kernel
theorem dX7_strip_63 : decode cX7_strip 63 = .ok (.iload_n 3, 1) := by decide +kernel
theorem dX7_strip_64 : decode cX7_strip 64 = .ok (.iconst 0, 1) := by decide +kernel
theorem dX7_strip_65 : decode cX7_strip 65 = .ok (.iload_n 1, 1) := by decide +kernel
theorem dX7_strip_66 : decode cX7_strip 66 = .ok (.invokevirtual 105, 3) := by decide +kernel
theorem dX7_strip_69 : decode cX7_strip 69 = .ok (.aload_n 0, 1) := by decide +kernel
theorem dX7_strip_70 : decode cX7_strip 70 = .ok (.iload_n 3, 1) := by decide +kernel
theorem dX7_strip_71 : decode cX7_strip 71 = .ok (.iconst 1, 1) := by decide +kernel
theorem dX7_strip_72 : decode cX7_strip 72 = .ok (.iload_n 2, 1) := by decide +kernel
theorem dX7_strip_73 : decode cX7_strip 73 = .ok (.invokevirtual 105, 3) := by decide +kernel
theorem dX7_strip_76 : decode cX7_strip 76 = .ok (.aload_n 0, 1) := by decide +kernel
theorem dX7_strip_77 : decode cX7_strip 77 = .ok (.iload_n 3, 1) := by decide +kernel
theorem dX7_strip_78 : decode cX7_strip 78 = .ok (.iconst 2, 1) := by decide +kernel
theorem dX7_strip_79 : decode cX7_strip 79 = .ok (.iconst 0, 1) := by decide +kernel
theorem dX7_strip_80 : decode cX7_strip 80 = .ok (.invokevirtual 105, 3) := by decide +kernel
theorem dX7_strip_83 : decode cX7_strip 83 = .ok (.aload_n 0, 1) := by decide +kernel
theorem dX7_strip_84 : decode cX7_strip 84 = .ok (.iload_n 3, 1) := by decide +kernel
theorem dX7_strip_85 : decode cX7_strip 85 = .ok (.iconst 3, 1) := by decide +kernel
theorem dX7_strip_86 : decode cX7_strip 86 = .ok (.iconst 0, 1) := by decide +kernel
theorem dX7_strip_87 : decode cX7_strip 87 = .ok (.invokevirtual 105, 3) := by decide +kernel
theorem dX7_strip_90 : decode cX7_strip 90 = .ok (.aload_n 0, 1) := by decide +kernel
theorem dX7_strip_91 : decode cX7_strip 91 = .ok (.iload_n 3, 1) := by decide +kernel
theorem dX7_strip_92 : decode cX7_strip 92 = .ok (.iconst 4, 1) := by decide +kernel
theorem dX7_strip_93 : decode cX7_strip 93 = .ok (.iconst 0, 1) := by decide +kernel
theorem dX7_strip_94 : decode cX7_strip 94 = .ok (.invokevirtual 105, 3) := by decide +kernel
theorem dX7_strip_97 : decode cX7_strip 97 = .ok (.iload_n 3, 1) := by decide +kernel
theorem dX7_strip_98 : decode cX7_strip 98 = .ok (.ireturn, 1) := by decide +kernel
theorem dX7_hasFlaw_0 : decode cX7_hasFlaw 0 = .ok (.iconst 0, 1) := by decide +kernel
theorem dX7_hasFlaw_1 : decode cX7_hasFlaw 1 = .ok (.istore 4, 2) := by decide +kernel
theorem dX7_hasFlaw_3 : decode cX7_hasFlaw 3 = .ok (.iconst 0, 1) := by decide +kernel
theorem dX7_hasFlaw_4 : decode cX7_hasFlaw 4 = .ok (.istore 5, 2) := by decide +kernel
theorem dX7_hasFlaw_6 : decode cX7_hasFlaw 6 = .ok (.iload 5, 2) := by decide +kernel
theorem dX7_hasFlaw_8 : decode cX7_hasFlaw 8 = .ok (.aload_n 0, 1) := by decide +kernel
theorem dX7_hasFlaw_9 : decode cX7_hasFlaw 9 = .ok (.iload_n 1, 1) := by decide +kernel
theorem dX7_hasFlaw_10 : decode cX7_hasFlaw 10 = .ok (.iconst 3, 1) := by decide +kernel
theorem dX7_hasFlaw_11 : decode cX7_hasFlaw 11 = .ok (.invokevirtual 85, 3) := by decide +kernel
theorem dX7_hasFlaw_14 : decode cX7_hasFlaw 14 = .ok (.if_icmp .ge 40, 3) := by decide +kernel
theorem dX7_hasFlaw_17 : decode cX7_hasFlaw 17 = .ok (.iload 4, 2) := by decide +kernel
theorem dX7_hasFlaw_19 : decode cX7_hasFlaw 19 = .ok (.ifCond .ne 22, 3) := by decide +kernel
theorem dX7_hasFlaw_22 : decode cX7_hasFlaw 22 = .ok (.aload_n 0, 1) := by decide +kernel
theorem dX7_hasFlaw_23 : decode cX7_hasFlaw 23 = .ok (.iload_n 1, 1) := by decide +kernel
theorem dX7_hasFlaw_24 : decode cX7_hasFlaw 24 = .ok (.iconst 5, 1) := by decide +kernel
theorem dX7_hasFlaw_25 : decode cX7_hasFlaw 25 = .ok (.iload 5, 2) := by decide +kernel
theorem dX7_hasFlaw_27 : decode cX7_hasFlaw 27 = .ok (.iadd, 1) := by decide +kernel
theorem dX7_hasFlaw_28 : decode cX7_hasFlaw 28 = .ok (.invokevirtual 85, 3) := by decide +kernel
theorem dX7_hasFlaw_31 : decode cX7_hasFlaw 31 = .ok (.iload_n 2, 1) := by decide +kernel
theorem dX7_hasFlaw_32 : decode cX7_hasFlaw 32 = .ok (.iload_n 3, 1) := by decide +kernel
theorem dX7_hasFlaw_33 : decode cX7_hasFlaw 33 = .ok (.iconst 1, 1) := by decide +kernel
theorem dX7_hasFlaw_34 : decode cX7_hasFlaw 34 = .ok (.isub, 1) := by decide +kernel
theorem dX7_hasFlaw_35 : decode cX7_hasFlaw 35 = .ok (.invokestatic 37, 3) := by decide +kernel
theorem dX7_hasFlaw_38 : decode cX7_hasFlaw 38 = .ok (.ifCond .eq 7, 3) := by decide +kernel
theorem dX7_hasFlaw_41 : decode cX7_hasFlaw 41 = .ok (.iconst 1, 1) := by decide +kernel
theorem dX7_hasFlaw_42 : decode cX7_hasFlaw 42 = .ok (.goto 4, 3) := by decide +kernel
theorem dX7_hasFlaw_45 : decode cX7_hasFlaw 45 = .ok (.iconst 0, 1) := by decide +kernel
theorem dX7_hasFlaw_46 : decode cX7_hasFlaw 46 = .ok (.istore 4, 2) := by decide +kernel
theorem dX7_hasFlaw_48 : decode cX7_hasFlaw 48 = .ok (.iinc 5 1, 3) := by decide +kernel
theorem dX7_hasFlaw_51 : decode cX7_hasFlaw 51 = .ok (.goto (-45), 3) := by decide +kernel
theorem dX7_hasFlaw_54 : decode cX7_hasFlaw 54 = .ok (.iload 4, 2) := by decide +kernel
theorem dX7_hasFlaw_56 : decode cX7_hasFlaw 56 = .ok (.ireturn, 1) := by decide +kernel
theorem dX7_flaw_0 : decode cX7_flaw 0 = .ok (.aload_n 0, 1) := by decide +kernel
theorem dX7_flaw_1 : decode cX7_flaw 1 = .ok (.iload_n 1, 1) := by decide +kernel
theorem dX7_flaw_2 : decode cX7_flaw 2 = .ok (.invokevirtual 109, 3) := by decide +kernel
theorem dX7_flaw_5 : decode cX7_flaw 5 = .ok (.ifCond .eq 14, 3) := by decide +kernel
theorem dX7_flaw_8 : decode cX7_flaw 8 = .ok (.iload_n 2, 1) := by decide +kernel
theorem dX7_flaw_9 : decode cX7_flaw 9 = .ok (.iconst 0, 1) := by decide +kernel
theorem dX7_flaw_10 : decode cX7_flaw 10 = .ok (.sipush 999, 3) := by decide +kernel
theorem dX7_flaw_13 : decode cX7_flaw 13 = .ok (.invokestatic 37, 3) := by decide +kernel
theorem dX7_flaw_16 : decode cX7_flaw 16 = .ok (.ifCond .ne 5, 3) := by decide +kernel
theorem dX7_flaw_19 : decode cX7_flaw 19 = .ok (.iconst (-1), 1) := by decide +kernel
theorem dX7_flaw_20 : decode cX7_flaw 20 = .ok (.ireturn, 1) := by decide +kernel
theorem dX7_flaw_21 : decode cX7_flaw 21 = .ok (.iload_n 2, 1) := by decide +kernel
theorem dX7_flaw_22 : decode cX7_flaw 22 = .ok (.aload_n 0, 1) := by decide +kernel
theorem dX7_flaw_23 : decode cX7_flaw 23 = .ok (.iload_n 1, 1) := by decide +kernel
theorem dX7_flaw_24 : decode cX7_flaw 24 = .ok (.iconst 2, 1) := by decide +kernel
theorem dX7_flaw_25 : decode cX7_flaw 25 = .ok (.invokevirtual 85, 3) := by decide +kernel
theorem dX7_flaw_28 : decode cX7_flaw 28 = .ok (.aload_n 0, 1) := by decide +kernel
theorem dX7_flaw_29 : decode cX7_flaw 29 = .ok (.iload_n 1, 1) := by decide +kernel
theorem dX7_flaw_30 : decode cX7_flaw 30 = .ok (.iconst 0, 1) := by decide +kernel
theorem dX7_flaw_31 : decode cX7_flaw 31 = .ok (.invokevirtual 85, 3) := by decide +kernel
theorem dX7_flaw_34 : decode cX7_flaw 34 = .ok (.iconst 1, 1) := by decide +kernel
theorem dX7_flaw_35 : decode cX7_flaw 35 = .ok (.isub, 1) := by decide +kernel
theorem dX7_flaw_36 : decode cX7_flaw 36 = .ok (.invokestatic 37, 3) := by decide +kernel
theorem dX7_flaw_39 : decode cX7_flaw 39 = .ok (.ifCond .eq 15, 3) := by decide +kernel
theorem dX7_flaw_42 : decode cX7_flaw 42 = .ok (.aload_n 0, 1) := by decide +kernel
theorem dX7_flaw_43 : decode cX7_flaw 43 = .ok (.iload_n 1, 1) := by decide +kernel
theorem dX7_flaw_44 : decode cX7_flaw 44 = .ok (.iload_n 2, 1) := by decide +kernel
theorem dX7_flaw_45 : decode cX7_flaw 45 = .ok (.iload_n 2, 1) := by decide +kernel
theorem dX7_flaw_46 : decode cX7_flaw 46 = .ok (.iconst 1, 1) := by decide +kernel
theorem dX7_flaw_47 : decode cX7_flaw 47 = .ok (.iadd, 1) := by decide +kernel
theorem dX7_flaw_48 : decode cX7_flaw 48 = .ok (.invokevirtual 113, 3) := by decide +kernel
theorem dX7_flaw_51 : decode cX7_flaw 51 = .ok (.ifCond .eq 6, 3) := by decide +kernel
theorem dX7_flaw_54 : decode cX7_flaw 54 = .ok (.bipush (-2), 2) := by decide +kernel
theorem dX7_flaw_56 : decode cX7_flaw 56 = .ok (.ireturn, 1) := by decide +kernel
theorem dX7_flaw_57 : decode cX7_flaw 57 = .ok (.aload_n 0, 1) := by decide +kernel
theorem dX7_flaw_58 : decode cX7_flaw 58 = .ok (.iload_n 1, 1) := by decide +kernel
theorem dX7_flaw_59 : decode cX7_flaw 59 = .ok (.iconst 3, 1) := by decide +kernel
theorem dX7_flaw_60 : decode cX7_flaw 60 = .ok (.invokevirtual 85, 3) := by decide +kernel
theorem dX7_flaw_63 : decode cX7_flaw 63 = .ok (.bipush 6, 2) := by decide +kernel
theorem dX7_flaw_65 : decode cX7_flaw 65 = .ok (.if_icmp .ne 6, 3) := by decide +kernel
theorem dX7_flaw_68 : decode cX7_flaw 68 = .ok (.bipush (-3), 2) := by decide +kernel
theorem dX7_flaw_70 : decode cX7_flaw 70 = .ok (.ireturn, 1) := by decide +kernel
theorem dX7_flaw_71 : decode cX7_flaw 71 = .ok (.aload_n 0, 1) := by decide +kernel
theorem dX7_flaw_72 : decode cX7_flaw 72 = .ok (.invokevirtual 62, 3) := by decide +kernel
theorem dX7_flaw_75 : decode cX7_flaw 75 = .ok (.aload_n 0, 1) := by decide +kernel
theorem dX7_flaw_76 : decode cX7_flaw 76 = .ok (.iload_n 1, 1) := by decide +kernel
theorem dX7_flaw_77 : decode cX7_flaw 77 = .ok (.iconst 5, 1) := by decide +kernel
theorem dX7_flaw_78 : decode cX7_flaw 78 = .ok (.aload_n 0, 1) := by decide +kernel
theorem dX7_flaw_79 : decode cX7_flaw 79 = .ok (.iload_n 1, 1) := by decide +kernel
theorem dX7_flaw_80 : decode cX7_flaw 80 = .ok (.iconst 3, 1) := by decide +kernel
theorem dX7_flaw_81 : decode cX7_flaw 81 = .ok (.invokevirtual 85, 3) := by decide +kernel
theorem dX7_flaw_84 : decode cX7_flaw 84 = .ok (.iadd, 1) := by decide +kernel
theorem dX7_flaw_85 : decode cX7_flaw 85 = .ok (.iload_n 2, 1) := by decide +kernel
theorem dX7_flaw_86 : decode cX7_flaw 86 = .ok (.invokevirtual 105, 3) := by decide +kernel
theorem dX7_flaw_89 : decode cX7_flaw 89 = .ok (.aload_n 0, 1) := by decide +kernel
theorem dX7_flaw_90 : decode cX7_flaw 90 = .ok (.iload_n 1, 1) := by decide +kernel
theorem dX7_flaw_91 : decode cX7_flaw 91 = .ok (.iconst 3, 1) := by decide +kernel
theorem dX7_flaw_92 : decode cX7_flaw 92 = .ok (.aload_n 0, 1) := by decide +kernel
theorem dX7_flaw_93 : decode cX7_flaw 93 = .ok (.iload_n 1, 1) := by decide +kernel
theorem dX7_flaw_94 : decode cX7_flaw 94 = .ok (.iconst 3, 1) := by decide +kernel
theorem dX7_flaw_95 : decode cX7_flaw 95 = .ok (.invokevirtual 85, 3) := by decide +kernel
theorem dX7_flaw_98 : decode cX7_flaw 98 = .ok (.iconst 1, 1) := by decide +kernel
theorem dX7_flaw_99 : decode cX7_flaw 99 = .ok (.iadd, 1) := by decide +kernel
theorem dX7_flaw_100 : decode cX7_flaw 100 = .ok (.invokevirtual 105, 3) := by decide +kernel
theorem dX7_flaw_103 : decode cX7_flaw 103 = .ok (.aload_n 0, 1) := by decide +kernel
theorem dX7_flaw_104 : decode cX7_flaw 104 = .ok (.iload_n 1, 1) := by decide +kernel
theorem dX7_flaw_105 : decode cX7_flaw 105 = .ok (.iconst 3, 1) := by decide +kernel
theorem dX7_flaw_106 : decode cX7_flaw 106 = .ok (.invokevirtual 85, 3) := by decide +kernel
theorem dX7_flaw_109 : decode cX7_flaw 109 = .ok (.ireturn, 1) := by decide +kernel
theorem dX7_canCut_0 : decode cX7_canCut 0 = .ok (.aload_n 0, 1) := by decide +kernel
theorem dX7_canCut_1 : decode cX7_canCut 1 = .ok (.iload_n 1, 1) := by decide +kernel
theorem dX7_canCut_2 : decode cX7_canCut 2 = .ok (.invokevirtual 88, 3) := by decide +kernel
theorem dX7_canCut_5 : decode cX7_canCut 5 = .ok (.aload_n 0, 1) := by decide +kernel
theorem dX7_canCut_6 : decode cX7_canCut 6 = .ok (.getfield 7, 3) := by decide +kernel
theorem dX7_canCut_9 : decode cX7_canCut 9 = .ok (.iconst 2, 1) := by decide +kernel
theorem dX7_canCut_10 : decode cX7_canCut 10 = .ok (.iaload, 1) := by decide +kernel
theorem dX7_canCut_11 : decode cX7_canCut 11 = .ok (.if_icmp .lt 7, 3) := by decide +kernel
theorem dX7_canCut_14 : decode cX7_canCut 14 = .ok (.iconst 1, 1) := by decide +kernel
theorem dX7_canCut_15 : decode cX7_canCut 15 = .ok (.goto 4, 3) := by decide +kernel
theorem dX7_canCut_18 : decode cX7_canCut 18 = .ok (.iconst 0, 1) := by decide +kernel
theorem dX7_canCut_19 : decode cX7_canCut 19 = .ok (.ireturn, 1) := by decide +kernel
theorem dX7_cuts_0 : decode cX7_cuts 0 = .ok (.aload_n 0, 1) := by decide +kernel
theorem dX7_cuts_1 : decode cX7_cuts 1 = .ok (.iload_n 1, 1) := by decide +kernel
theorem dX7_cuts_2 : decode cX7_cuts 2 = .ok (.iconst 2, 1) := by decide +kernel
theorem dX7_cuts_3 : decode cX7_cuts 3 = .ok (.invokevirtual 85, 3) := by decide +kernel
theorem dX7_cuts_6 : decode cX7_cuts 6 = .ok (.istore_n 2, 1) := by decide +kernel
theorem dX7_cuts_7 : decode cX7_cuts 7 = .ok (.aload_n 0, 1) := by decide +kernel
theorem dX7_cuts_8 : decode cX7_cuts 8 = .ok (.iload_n 1, 1) := by decide +kernel
theorem dX7_cuts_9 : decode cX7_cuts 9 = .ok (.iload_n 2, 1) := by decide +kernel
theorem dX7_cuts_10 : decode cX7_cuts 10 = .ok (.iload_n 2, 1) := by decide +kernel
theorem dX7_cuts_11 : decode cX7_cuts 11 = .ok (.aload_n 0, 1) := by decide +kernel
theorem dX7_cuts_12 : decode cX7_cuts 12 = .ok (.getfield 7, 3) := by decide +kernel
theorem dX7_cuts_15 : decode cX7_cuts 15 = .ok (.iconst 2, 1) := by decide +kernel
theorem dX7_cuts_16 : decode cX7_cuts 16 = .ok (.iaload, 1) := by decide +kernel
theorem dX7_cuts_17 : decode cX7_cuts 17 = .ok (.iadd, 1) := by decide +kernel
theorem dX7_cuts_18 : decode cX7_cuts 18 = .ok (.invokevirtual 113, 3) := by decide +kernel
theorem dX7_cuts_21 : decode cX7_cuts 21 = .ok (.ifCond .ne 7, 3) := by decide +kernel
theorem dX7_cuts_24 : decode cX7_cuts 24 = .ok (.iconst 1, 1) := by decide +kernel
theorem dX7_cuts_25 : decode cX7_cuts 25 = .ok (.goto 4, 3) := by decide +kernel
theorem dX7_cuts_28 : decode cX7_cuts 28 = .ok (.iconst 0, 1) := by decide +kernel
theorem dX7_cuts_29 : decode cX7_cuts 29 = .ok (.istore_n 3, 1) := by decide +kernel
theorem dX7_cuts_30 : decode cX7_cuts 30 = .ok (.aload_n 0, 1) := by decide +kernel
theorem dX7_cuts_31 : decode cX7_cuts 31 = .ok (.getfield 7, 3) := by decide +kernel
theorem dX7_cuts_34 : decode cX7_cuts 34 = .ok (.iconst 3, 1) := by decide +kernel
theorem dX7_cuts_35 : decode cX7_cuts 35 = .ok (.iaload, 1) := by decide +kernel
theorem dX7_cuts_36 : decode cX7_cuts 36 = .ok (.aload_n 0, 1) := by decide +kernel
theorem dX7_cuts_37 : decode cX7_cuts 37 = .ok (.iload_n 1, 1) := by decide +kernel
theorem dX7_cuts_38 : decode cX7_cuts 38 = .ok (.invokevirtual 88, 3) := by decide +kernel
theorem dX7_cuts_41 : decode cX7_cuts 41 = .ok (.aload_n 0, 1) := by decide +kernel
theorem dX7_cuts_42 : decode cX7_cuts 42 = .ok (.getfield 7, 3) := by decide +kernel
theorem dX7_cuts_45 : decode cX7_cuts 45 = .ok (.iconst 2, 1) := by decide +kernel
theorem dX7_cuts_46 : decode cX7_cuts 46 = .ok (.iaload, 1) := by decide +kernel
theorem dX7_cuts_47 : decode cX7_cuts 47 = .ok (.isub, 1) := by decide +kernel
theorem dX7_cuts_48 : decode cX7_cuts 48 = .ok (.invokestatic 45, 3) := by decide +kernel
theorem dX7_cuts_51 : decode cX7_cuts 51 = .ok (.istore 4, 2) := by decide +kernel
theorem dX7_cuts_53 : decode cX7_cuts 53 = .ok (.aload_n 0, 1) := by decide +kernel
theorem dX7_cuts_54 : decode cX7_cuts 54 = .ok (.iload_n 1, 1) := by decide +kernel
theorem dX7_cuts_55 : decode cX7_cuts 55 = .ok (.iconst 2, 1) := by decide +kernel
theorem dX7_cuts_56 : decode cX7_cuts 56 = .ok (.iload_n 2, 1) := by decide +kernel
theorem dX7_cuts_57 : decode cX7_cuts 57 = .ok (.aload_n 0, 1) := by decide +kernel
theorem dX7_cuts_58 : decode cX7_cuts 58 = .ok (.getfield 7, 3) := by decide +kernel
theorem dX7_cuts_61 : decode cX7_cuts 61 = .ok (.iconst 2, 1) := by decide +kernel
theorem dX7_cuts_62 : decode cX7_cuts 62 = .ok (.iaload, 1) := by decide +kernel
theorem dX7_cuts_63 : decode cX7_cuts 63 = .ok (.iadd, 1) := by decide +kernel
theorem dX7_cuts_64 : decode cX7_cuts 64 = .ok (.iload 4, 2) := by decide +kernel
theorem dX7_cuts_66 : decode cX7_cuts 66 = .ok (.iadd, 1) := by decide +kernel
theorem dX7_cuts_67 : decode cX7_cuts 67 = .ok (.invokevirtual 105, 3) := by decide +kernel
theorem dX7_cuts_70 : decode cX7_cuts 70 = .ok (.aload_n 0, 1) := by decide +kernel
theorem dX7_cuts_71 : decode cX7_cuts 71 = .ok (.getfield 7, 3) := by decide +kernel
theorem dX7_cuts_74 : decode cX7_cuts 74 = .ok (.bipush 10, 2) := by decide +kernel
theorem dX7_cuts_76 : decode cX7_cuts 76 = .ok (.dup2, 1) := by decide +kernel
theorem dX7_cuts_77 : decode cX7_cuts 77 = .ok (.iaload, 1) := by decide +kernel
theorem dX7_cuts_78 : decode cX7_cuts 78 = .ok (.iload 4, 2) := by decide +kernel
theorem dX7_cuts_80 : decode cX7_cuts 80 = .ok (.iadd, 1) := by decide +kernel
theorem dX7_cuts_81 : decode cX7_cuts 81 = .ok (.iastore, 1) := by decide +kernel
theorem dX7_cuts_82 : decode cX7_cuts 82 = .ok (.aload_n 0, 1) := by decide +kernel
theorem dX7_cuts_83 : decode cX7_cuts 83 = .ok (.getfield 7, 3) := by decide +kernel
theorem dX7_cuts_86 : decode cX7_cuts 86 = .ok (.bipush 8, 2) := by decide +kernel
theorem dX7_cuts_88 : decode cX7_cuts 88 = .ok (.dup2, 1) := by decide +kernel
theorem dX7_cuts_89 : decode cX7_cuts 89 = .ok (.iaload, 1) := by decide +kernel
theorem dX7_cuts_90 : decode cX7_cuts 90 = .ok (.iload_n 3, 1) := by decide +kernel
theorem dX7_cuts_91 : decode cX7_cuts 91 = .ok (.ifCond .eq 7, 3) := by decide +kernel
theorem dX7_cuts_94 : decode cX7_cuts 94 = .ok (.iconst 0, 1) := by decide +kernel
theorem dX7_cuts_95 : decode cX7_cuts 95 = .ok (.goto 4, 3) := by decide +kernel
theorem dX7_cuts_98 : decode cX7_cuts 98 = .ok (.iconst 1, 1) := by decide +kernel
theorem dX7_cuts_99 : decode cX7_cuts 99 = .ok (.iadd, 1) := by decide +kernel
theorem dX7_cuts_100 : decode cX7_cuts 100 = .ok (.iastore, 1) := by decide +kernel
theorem dX7_cuts_101 : decode cX7_cuts 101 = .ok (.aload_n 0, 1) := by decide +kernel
theorem dX7_cuts_102 : decode cX7_cuts 102 = .ok (.getfield 7, 3) := by decide +kernel
theorem dX7_cuts_105 : decode cX7_cuts 105 = .ok (.bipush 9, 2) := by decide +kernel
theorem dX7_cuts_107 : decode cX7_cuts 107 = .ok (.dup2, 1) := by decide +kernel
theorem dX7_cuts_108 : decode cX7_cuts 108 = .ok (.iaload, 1) := by decide +kernel
theorem dX7_cuts_109 : decode cX7_cuts 109 = .ok (.iload_n 3, 1) := by decide +kernel
theorem dX7_cuts_110 : decode cX7_cuts 110 = .ok (.ifCond .eq 7, 3) := by decide +kernel
theorem dX7_cuts_113 : decode cX7_cuts 113 = .ok (.iconst 0, 1) := by decide +kernel
theorem dX7_cuts_114 : decode cX7_cuts 114 = .ok (.goto 9, 3) := by decide +kernel
theorem dX7_cuts_117 : decode cX7_cuts 117 = .ok (.aload_n 0, 1) := by decide +kernel
theorem dX7_cuts_118 : decode cX7_cuts 118 = .ok (.getfield 7, 3) := by decide +kernel
theorem dX7_cuts_121 : decode cX7_cuts 121 = .ok (.iconst 2, 1) := by decide +kernel
theorem dX7_cuts_122 : decode cX7_cuts 122 = .ok (.iaload, 1) := by decide +kernel
theorem dX7_cuts_123 : decode cX7_cuts 123 = .ok (.iadd, 1) := by decide +kernel
theorem dX7_cuts_124 : decode cX7_cuts 124 = .ok (.iastore, 1) := by decide +kernel
theorem dX7_cuts_125 : decode cX7_cuts 125 = .ok (.aload_n 0, 1) := by decide +kernel
theorem dX7_cuts_126 : decode cX7_cuts 126 = .ok (.iload_n 1, 1) := by decide +kernel
theorem dX7_cuts_127 : decode cX7_cuts 127 = .ok (.iconst 4, 1) := by decide +kernel
theorem dX7_cuts_128 : decode cX7_cuts 128 = .ok (.aload_n 0, 1) := by decide +kernel
theorem dX7_cuts_129 : decode cX7_cuts 129 = .ok (.iload_n 1, 1) := by decide +kernel
theorem dX7_cuts_130 : decode cX7_cuts 130 = .ok (.iconst 4, 1) := by decide +kernel
theorem dX7_cuts_131 : decode cX7_cuts 131 = .ok (.invokevirtual 85, 3) := by decide +kernel
theorem dX7_cuts_134 : decode cX7_cuts 134 = .ok (.iload_n 3, 1) := by decide +kernel
theorem dX7_cuts_135 : decode cX7_cuts 135 = .ok (.ifCond .eq 7, 3) := by decide +kernel
theorem dX7_cuts_138 : decode cX7_cuts 138 = .ok (.iconst 1, 1) := by decide +kernel
theorem dX7_cuts_139 : decode cX7_cuts 139 = .ok (.goto 4, 3) := by decide +kernel
theorem dX7_cuts_142 : decode cX7_cuts 142 = .ok (.iconst 0, 1) := by decide +kernel
theorem dX7_cuts_143 : decode cX7_cuts 143 = .ok (.iadd, 1) := by decide +kernel
theorem dX7_cuts_144 : decode cX7_cuts 144 = .ok (.invokevirtual 105, 3) := by decide +kernel
theorem dX7_cuts_147 : decode cX7_cuts 147 = .ok (.iload_n 3, 1) := by decide +kernel
theorem dX7_cuts_148 : decode cX7_cuts 148 = .ok (.ireturn, 1) := by decide +kernel
theorem dX7_cut_0 : decode cX7_cut 0 = .ok (.aload_n 0, 1) := by decide +kernel
theorem dX7_cut_1 : decode cX7_cut 1 = .ok (.iload_n 1, 1) := by decide +kernel
theorem dX7_cut_2 : decode cX7_cut 2 = .ok (.invokevirtual 109, 3) := by decide +kernel
theorem dX7_cut_5 : decode cX7_cut 5 = .ok (.ifCond .ne 5, 3) := by decide +kernel
theorem dX7_cut_8 : decode cX7_cut 8 = .ok (.iconst (-1), 1) := by decide +kernel
theorem dX7_cut_9 : decode cX7_cut 9 = .ok (.ireturn, 1) := by decide +kernel
theorem dX7_cut_10 : decode cX7_cut 10 = .ok (.aload_n 0, 1) := by decide +kernel
theorem dX7_cut_11 : decode cX7_cut 11 = .ok (.iload_n 1, 1) := by decide +kernel
theorem dX7_cut_12 : decode cX7_cut 12 = .ok (.invokevirtual 116, 3) := by decide +kernel
theorem dX7_cut_15 : decode cX7_cut 15 = .ok (.ifCond .ne 6, 3) := by decide +kernel
theorem dX7_cut_18 : decode cX7_cut 18 = .ok (.bipush (-2), 2) := by decide +kernel
theorem dX7_cut_20 : decode cX7_cut 20 = .ok (.ireturn, 1) := by decide +kernel
theorem dX7_cut_21 : decode cX7_cut 21 = .ok (.aload_n 0, 1) := by decide +kernel
theorem dX7_cut_22 : decode cX7_cut 22 = .ok (.invokevirtual 62, 3) := by decide +kernel
theorem dX7_cut_25 : decode cX7_cut 25 = .ok (.aload_n 0, 1) := by decide +kernel
theorem dX7_cut_26 : decode cX7_cut 26 = .ok (.iload_n 1, 1) := by decide +kernel
theorem dX7_cut_27 : decode cX7_cut 27 = .ok (.invokevirtual 119, 3) := by decide +kernel
theorem dX7_cut_30 : decode cX7_cut 30 = .ok (.istore_n 2, 1) := by decide +kernel
theorem dX7_cut_31 : decode cX7_cut 31 = .ok (.aload_n 0, 1) := by decide +kernel
theorem dX7_cut_32 : decode cX7_cut 32 = .ok (.getfield 7, 3) := by decide +kernel
theorem dX7_cut_35 : decode cX7_cut 35 = .ok (.sipush 308, 3) := by decide +kernel
theorem dX7_cut_38 : decode cX7_cut 38 = .ok (.aload_n 0, 1) := by decide +kernel
theorem dX7_cut_39 : decode cX7_cut 39 = .ok (.iload_n 1, 1) := by decide +kernel
theorem dX7_cut_40 : decode cX7_cut 40 = .ok (.iconst 1, 1) := by decide +kernel
theorem dX7_cut_41 : decode cX7_cut 41 = .ok (.invokevirtual 85, 3) := by decide +kernel
theorem dX7_cut_44 : decode cX7_cut 44 = .ok (.iadd, 1) := by decide +kernel
theorem dX7_cut_45 : decode cX7_cut 45 = .ok (.dup2, 1) := by decide +kernel
theorem dX7_cut_46 : decode cX7_cut 46 = .ok (.iaload, 1) := by decide +kernel
theorem dX7_cut_47 : decode cX7_cut 47 = .ok (.iload_n 2, 1) := by decide +kernel
theorem dX7_cut_48 : decode cX7_cut 48 = .ok (.ifCond .eq 7, 3) := by decide +kernel
theorem dX7_cut_51 : decode cX7_cut 51 = .ok (.iconst 1, 1) := by decide +kernel
theorem dX7_cut_52 : decode cX7_cut 52 = .ok (.goto 4, 3) := by decide +kernel
theorem dX7_cut_55 : decode cX7_cut 55 = .ok (.iconst 0, 1) := by decide +kernel
theorem dX7_cut_56 : decode cX7_cut 56 = .ok (.iadd, 1) := by decide +kernel
theorem dX7_cut_57 : decode cX7_cut 57 = .ok (.iastore, 1) := by decide +kernel
theorem dX7_cut_58 : decode cX7_cut 58 = .ok (.iload_n 2, 1) := by decide +kernel
theorem dX7_cut_59 : decode cX7_cut 59 = .ok (.ifCond .eq 7, 3) := by decide +kernel
theorem dX7_cut_62 : decode cX7_cut 62 = .ok (.iconst 1, 1) := by decide +kernel
theorem dX7_cut_63 : decode cX7_cut 63 = .ok (.goto 4, 3) := by decide +kernel
theorem dX7_cut_66 : decode cX7_cut 66 = .ok (.iconst 0, 1) := by decide +kernel
theorem dX7_cut_67 : decode cX7_cut 67 = .ok (.ireturn, 1) := by decide +kernel
theorem dX7_still_0 : decode cX7_still 0 = .ok (.iconst 0, 1) := by decide +kernel
theorem dX7_still_1 : decode cX7_still 1 = .ok (.istore_n 3, 1) := by decide +kernel
theorem dX7_still_2 : decode cX7_still 2 = .ok (.aload_n 0, 1) := by decide +kernel
theorem dX7_still_3 : decode cX7_still 3 = .ok (.iload_n 1, 1) := by decide +kernel
theorem dX7_still_4 : decode cX7_still 4 = .ok (.iconst 2, 1) := by decide +kernel
theorem dX7_still_5 : decode cX7_still 5 = .ok (.invokevirtual 85, 3) := by decide +kernel
theorem dX7_still_8 : decode cX7_still 8 = .ok (.istore 4, 2) := by decide +kernel
theorem dX7_still_10 : decode cX7_still 10 = .ok (.iload 4, 2) := by decide +kernel
theorem dX7_still_12 : decode cX7_still 12 = .ok (.aload_n 0, 1) := by decide +kernel
theorem dX7_still_13 : decode cX7_still 13 = .ok (.getfield 7, 3) := by decide +kernel
theorem dX7_still_16 : decode cX7_still 16 = .ok (.iconst 2, 1) := by decide +kernel
theorem dX7_still_17 : decode cX7_still 17 = .ok (.iaload, 1) := by decide +kernel
theorem dX7_still_18 : decode cX7_still 18 = .ok (.iadd, 1) := by decide +kernel
theorem dX7_still_19 : decode cX7_still 19 = .ok (.aload_n 0, 1) := by decide +kernel
theorem dX7_still_20 : decode cX7_still 20 = .ok (.iload_n 1, 1) := by decide +kernel
theorem dX7_still_21 : decode cX7_still 21 = .ok (.iconst 0, 1) := by decide +kernel
theorem dX7_still_22 : decode cX7_still 22 = .ok (.invokevirtual 85, 3) := by decide +kernel
theorem dX7_still_25 : decode cX7_still 25 = .ok (.if_icmp .gt 55, 3) := by decide +kernel
theorem dX7_still_28 : decode cX7_still 28 = .ok (.iload_n 3, 1) := by decide +kernel
theorem dX7_still_29 : decode cX7_still 29 = .ok (.iload_n 2, 1) := by decide +kernel
theorem dX7_still_30 : decode cX7_still 30 = .ok (.ifCond .eq 26, 3) := by decide +kernel
theorem dX7_still_33 : decode cX7_still 33 = .ok (.aload_n 0, 1) := by decide +kernel
theorem dX7_still_34 : decode cX7_still 34 = .ok (.iload_n 1, 1) := by decide +kernel
theorem dX7_still_35 : decode cX7_still 35 = .ok (.iload 4, 2) := by decide +kernel
theorem dX7_still_37 : decode cX7_still 37 = .ok (.iload 4, 2) := by decide +kernel
theorem dX7_still_39 : decode cX7_still 39 = .ok (.aload_n 0, 1) := by decide +kernel
theorem dX7_still_40 : decode cX7_still 40 = .ok (.getfield 7, 3) := by decide +kernel
theorem dX7_still_43 : decode cX7_still 43 = .ok (.iconst 2, 1) := by decide +kernel
theorem dX7_still_44 : decode cX7_still 44 = .ok (.iaload, 1) := by decide +kernel
theorem dX7_still_45 : decode cX7_still 45 = .ok (.iadd, 1) := by decide +kernel
theorem dX7_still_46 : decode cX7_still 46 = .ok (.invokevirtual 113, 3) := by decide +kernel
theorem dX7_still_49 : decode cX7_still 49 = .ok (.ifCond .eq 7, 3) := by decide +kernel
theorem dX7_still_52 : decode cX7_still 52 = .ok (.iconst 0, 1) := by decide +kernel
theorem dX7_still_53 : decode cX7_still 53 = .ok (.goto 4, 3) := by decide +kernel
theorem dX7_still_56 : decode cX7_still 56 = .ok (.iconst 1, 1) := by decide +kernel
theorem dX7_still_57 : decode cX7_still 57 = .ok (.iadd, 1) := by decide +kernel
theorem dX7_still_58 : decode cX7_still 58 = .ok (.istore_n 3, 1) := by decide +kernel
theorem dX7_still_59 : decode cX7_still 59 = .ok (.iload 4, 2) := by decide +kernel
theorem dX7_still_61 : decode cX7_still 61 = .ok (.aload_n 0, 1) := by decide +kernel
theorem dX7_still_62 : decode cX7_still 62 = .ok (.getfield 7, 3) := by decide +kernel
theorem dX7_still_65 : decode cX7_still 65 = .ok (.iconst 2, 1) := by decide +kernel
theorem dX7_still_66 : decode cX7_still 66 = .ok (.iaload, 1) := by decide +kernel
theorem dX7_still_67 : decode cX7_still 67 = .ok (.aload_n 0, 1) := by decide +kernel
theorem dX7_still_68 : decode cX7_still 68 = .ok (.getfield 7, 3) := by decide +kernel
theorem dX7_still_71 : decode cX7_still 71 = .ok (.iconst 3, 1) := by decide +kernel
theorem dX7_still_72 : decode cX7_still 72 = .ok (.iaload, 1) := by decide +kernel
theorem dX7_still_73 : decode cX7_still 73 = .ok (.iadd, 1) := by decide +kernel
theorem dX7_still_74 : decode cX7_still 74 = .ok (.iadd, 1) := by decide +kernel
theorem dX7_still_75 : decode cX7_still 75 = .ok (.istore 4, 2) := by decide +kernel
theorem dX7_still_77 : decode cX7_still 77 = .ok (.goto (-67), 3) := by decide +kernel
theorem dX7_still_80 : decode cX7_still 80 = .ok (.iload_n 3, 1) := by decide +kernel
theorem dX7_still_81 : decode cX7_still 81 = .ok (.ireturn, 1) := by decide +kernel
theorem dX7_partOf_0 : decode cX7_partOf 0 = .ok (.iload_n 2, 1) := by decide +kernel
theorem dX7_partOf_1 : decode cX7_partOf 1 = .ok (.tableswitch 71 2 6 #[35, 41, 48, 48, 64], 35) := by decide +kernel
theorem dX7_partOf_36 : decode cX7_partOf 36 = .ok (.aload_n 0, 1) := by decide +kernel
theorem dX7_partOf_37 : decode cX7_partOf 37 = .ok (.iload_n 1, 1) := by decide +kernel
theorem dX7_partOf_38 : decode cX7_partOf 38 = .ok (.invokevirtual 88, 3) := by decide +kernel
theorem dX7_partOf_41 : decode cX7_partOf 41 = .ok (.ireturn, 1) := by decide +kernel
theorem dX7_partOf_42 : decode cX7_partOf 42 = .ok (.aload_n 0, 1) := by decide +kernel
theorem dX7_partOf_43 : decode cX7_partOf 43 = .ok (.iload_n 1, 1) := by decide +kernel
theorem dX7_partOf_44 : decode cX7_partOf 44 = .ok (.iconst 3, 1) := by decide +kernel
theorem dX7_partOf_45 : decode cX7_partOf 45 = .ok (.invokevirtual 85, 3) := by decide +kernel
theorem dX7_partOf_48 : decode cX7_partOf 48 = .ok (.ireturn, 1) := by decide +kernel
theorem dX7_partOf_49 : decode cX7_partOf 49 = .ok (.aload_n 0, 1) := by decide +kernel
theorem dX7_partOf_50 : decode cX7_partOf 50 = .ok (.iload_n 1, 1) := by decide +kernel
theorem dX7_partOf_51 : decode cX7_partOf 51 = .ok (.iload_n 2, 1) := by decide +kernel
theorem dX7_partOf_52 : decode cX7_partOf 52 = .ok (.iconst 5, 1) := by decide +kernel
theorem dX7_partOf_53 : decode cX7_partOf 53 = .ok (.if_icmp .ne 7, 3) := by decide +kernel
theorem dX7_partOf_56 : decode cX7_partOf 56 = .ok (.iconst 1, 1) := by decide +kernel
theorem dX7_partOf_57 : decode cX7_partOf 57 = .ok (.goto 4, 3) := by decide +kernel
theorem dX7_partOf_60 : decode cX7_partOf 60 = .ok (.iconst 0, 1) := by decide +kernel
theorem dX7_partOf_61 : decode cX7_partOf 61 = .ok (.invokevirtual 122, 3) := by decide +kernel
theorem dX7_partOf_64 : decode cX7_partOf 64 = .ok (.ireturn, 1) := by decide +kernel
theorem dX7_partOf_65 : decode cX7_partOf 65 = .ok (.aload_n 0, 1) := by decide +kernel
theorem dX7_partOf_66 : decode cX7_partOf 66 = .ok (.iload_n 1, 1) := by decide +kernel
theorem dX7_partOf_67 : decode cX7_partOf 67 = .ok (.iconst 4, 1) := by decide +kernel
theorem dX7_partOf_68 : decode cX7_partOf 68 = .ok (.invokevirtual 85, 3) := by decide +kernel
theorem dX7_partOf_71 : decode cX7_partOf 71 = .ok (.ireturn, 1) := by decide +kernel
theorem dX7_partOf_72 : decode cX7_partOf 72 = .ok (.aload_n 0, 1) := by decide +kernel
theorem dX7_partOf_73 : decode cX7_partOf 73 = .ok (.iload_n 1, 1) := by decide +kernel
theorem dX7_partOf_74 : decode cX7_partOf 74 = .ok (.iload_n 2, 1) := by decide +kernel
theorem dX7_partOf_75 : decode cX7_partOf 75 = .ok (.invokevirtual 85, 3) := by decide +kernel
theorem dX7_partOf_78 : decode cX7_partOf 78 = .ok (.ireturn, 1) := by decide +kernel
theorem dX7_stripOf_0 : decode cX7_stripOf 0 = .ok (.aload_n 0, 1) := by decide +kernel
theorem dX7_stripOf_1 : decode cX7_stripOf 1 = .ok (.iload_n 1, 1) := by decide +kernel
theorem dX7_stripOf_2 : decode cX7_stripOf 2 = .ok (.invokevirtual 109, 3) := by decide +kernel
theorem dX7_stripOf_5 : decode cX7_stripOf 5 = .ok (.ifCond .eq 22, 3) := by decide +kernel
theorem dX7_stripOf_8 : decode cX7_stripOf 8 = .ok (.iload_n 2, 1) := by decide +kernel
theorem dX7_stripOf_9 : decode cX7_stripOf 9 = .ok (.iconst 0, 1) := by decide +kernel
theorem dX7_stripOf_10 : decode cX7_stripOf 10 = .ok (.bipush 6, 2) := by decide +kernel
theorem dX7_stripOf_12 : decode cX7_stripOf 12 = .ok (.invokestatic 37, 3) := by decide +kernel
theorem dX7_stripOf_15 : decode cX7_stripOf 15 = .ok (.ifCond .eq 12, 3) := by decide +kernel
theorem dX7_stripOf_18 : decode cX7_stripOf 18 = .ok (.aload_n 0, 1) := by decide +kernel
theorem dX7_stripOf_19 : decode cX7_stripOf 19 = .ok (.iload_n 1, 1) := by decide +kernel
theorem dX7_stripOf_20 : decode cX7_stripOf 20 = .ok (.iload_n 2, 1) := by decide +kernel
theorem dX7_stripOf_21 : decode cX7_stripOf 21 = .ok (.invokevirtual 126, 3) := by decide +kernel
theorem dX7_stripOf_24 : decode cX7_stripOf 24 = .ok (.goto 4, 3) := by decide +kernel
theorem dX7_stripOf_27 : decode cX7_stripOf 27 = .ok (.iconst (-1), 1) := by decide +kernel
theorem dX7_stripOf_28 : decode cX7_stripOf 28 = .ok (.ireturn, 1) := by decide +kernel
theorem dX7_source_0 : decode cX7_source 0 = .ok (.iconst 0, 1) := by decide +kernel
theorem dX7_source_1 : decode cX7_source 1 = .ok (.istore_n 2, 1) := by decide +kernel
theorem dX7_source_2 : decode cX7_source 2 = .ok (.iload_n 2, 1) := by decide +kernel
theorem dX7_source_3 : decode cX7_source 3 = .ok (.aload_n 0, 1) := by decide +kernel
theorem dX7_source_4 : decode cX7_source 4 = .ok (.getfield 7, 3) := by decide +kernel
theorem dX7_source_7 : decode cX7_source 7 = .ok (.bipush 6, 2) := by decide +kernel
theorem dX7_source_9 : decode cX7_source 9 = .ok (.iaload, 1) := by decide +kernel
theorem dX7_source_10 : decode cX7_source 10 = .ok (.if_icmp .ge 30, 3) := by decide +kernel
theorem dX7_source_13 : decode cX7_source 13 = .ok (.aload_n 0, 1) := by decide +kernel
theorem dX7_source_14 : decode cX7_source 14 = .ok (.iload_n 2, 1) := by decide +kernel
theorem dX7_source_15 : decode cX7_source 15 = .ok (.iconst 1, 1) := by decide +kernel
theorem dX7_source_16 : decode cX7_source 16 = .ok (.invokevirtual 85, 3) := by decide +kernel
theorem dX7_source_19 : decode cX7_source 19 = .ok (.iload_n 1, 1) := by decide +kernel
theorem dX7_source_20 : decode cX7_source 20 = .ok (.if_icmp .ne 14, 3) := by decide +kernel
theorem dX7_source_23 : decode cX7_source 23 = .ok (.aload_n 0, 1) := by decide +kernel
theorem dX7_source_24 : decode cX7_source 24 = .ok (.iload_n 2, 1) := by decide +kernel
theorem dX7_source_25 : decode cX7_source 25 = .ok (.iconst 1, 1) := by decide +kernel
theorem dX7_source_26 : decode cX7_source 26 = .ok (.invokevirtual 122, 3) := by decide +kernel
theorem dX7_source_29 : decode cX7_source 29 = .ok (.ifCond .le 5, 3) := by decide +kernel
theorem dX7_source_32 : decode cX7_source 32 = .ok (.iload_n 2, 1) := by decide +kernel
theorem dX7_source_33 : decode cX7_source 33 = .ok (.ireturn, 1) := by decide +kernel
theorem dX7_source_34 : decode cX7_source 34 = .ok (.iinc 2 1, 3) := by decide +kernel
theorem dX7_source_37 : decode cX7_source 37 = .ok (.goto (-35), 3) := by decide +kernel
theorem dX7_source_40 : decode cX7_source 40 = .ok (.iconst (-1), 1) := by decide +kernel
theorem dX7_source_41 : decode cX7_source 41 = .ok (.ireturn, 1) := by decide +kernel
theorem dX7_nearestTo_0 : decode cX7_nearestTo 0 = .ok (.iconst 0, 1) := by decide +kernel
theorem dX7_nearestTo_1 : decode cX7_nearestTo 1 = .ok (.istore_n 2, 1) := by decide +kernel
theorem dX7_nearestTo_2 : decode cX7_nearestTo 2 = .ok (.iload_n 2, 1) := by decide +kernel
theorem dX7_nearestTo_3 : decode cX7_nearestTo 3 = .ok (.bipush 100, 2) := by decide +kernel
theorem dX7_nearestTo_5 : decode cX7_nearestTo 5 = .ok (.if_icmp .ge 80, 3) := by decide +kernel
theorem dX7_nearestTo_8 : decode cX7_nearestTo 8 = .ok (.iload_n 1, 1) := by decide +kernel
theorem dX7_nearestTo_9 : decode cX7_nearestTo 9 = .ok (.iload_n 2, 1) := by decide +kernel
theorem dX7_nearestTo_10 : decode cX7_nearestTo 10 = .ok (.isub, 1) := by decide +kernel
theorem dX7_nearestTo_11 : decode cX7_nearestTo 11 = .ok (.istore_n 3, 1) := by decide +kernel
theorem dX7_nearestTo_12 : decode cX7_nearestTo 12 = .ok (.iload_n 1, 1) := by decide +kernel
theorem dX7_nearestTo_13 : decode cX7_nearestTo 13 = .ok (.iload_n 2, 1) := by decide +kernel
theorem dX7_nearestTo_14 : decode cX7_nearestTo 14 = .ok (.iadd, 1) := by decide +kernel
theorem dX7_nearestTo_15 : decode cX7_nearestTo 15 = .ok (.istore 4, 2) := by decide +kernel
theorem dX7_nearestTo_17 : decode cX7_nearestTo 17 = .ok (.iload_n 3, 1) := by decide +kernel
theorem dX7_nearestTo_18 : decode cX7_nearestTo 18 = .ok (.ifCond .lt 27, 3) := by decide +kernel
theorem dX7_nearestTo_21 : decode cX7_nearestTo 21 = .ok (.aload_n 0, 1) := by decide +kernel
theorem dX7_nearestTo_22 : decode cX7_nearestTo 22 = .ok (.getfield 7, 3) := by decide +kernel
theorem dX7_nearestTo_25 : decode cX7_nearestTo 25 = .ok (.sipush 308, 3) := by decide +kernel
theorem dX7_nearestTo_28 : decode cX7_nearestTo 28 = .ok (.iload_n 3, 1) := by decide +kernel
theorem dX7_nearestTo_29 : decode cX7_nearestTo 29 = .ok (.iadd, 1) := by decide +kernel
theorem dX7_nearestTo_30 : decode cX7_nearestTo 30 = .ok (.iaload, 1) := by decide +kernel
theorem dX7_nearestTo_31 : decode cX7_nearestTo 31 = .ok (.ifCond .gt 12, 3) := by decide +kernel
theorem dX7_nearestTo_34 : decode cX7_nearestTo 34 = .ok (.aload_n 0, 1) := by decide +kernel
theorem dX7_nearestTo_35 : decode cX7_nearestTo 35 = .ok (.iload_n 3, 1) := by decide +kernel
theorem dX7_nearestTo_36 : decode cX7_nearestTo 36 = .ok (.invokevirtual 129, 3) := by decide +kernel
theorem dX7_nearestTo_39 : decode cX7_nearestTo 39 = .ok (.iconst (-1), 1) := by decide +kernel
theorem dX7_nearestTo_40 : decode cX7_nearestTo 40 = .ok (.if_icmp .eq 5, 3) := by decide +kernel
theorem dX7_nearestTo_43 : decode cX7_nearestTo 43 = .ok (.iload_n 3, 1) := by decide +kernel
theorem dX7_nearestTo_44 : decode cX7_nearestTo 44 = .ok (.ireturn, 1) := by decide +kernel
theorem dX7_nearestTo_45 : decode cX7_nearestTo 45 = .ok (.iload 4, 2) := by decide +kernel
theorem dX7_nearestTo_47 : decode cX7_nearestTo 47 = .ok (.bipush 100, 2) := by decide +kernel
theorem dX7_nearestTo_49 : decode cX7_nearestTo 49 = .ok (.if_icmp .ge 30, 3) := by decide +kernel
theorem dX7_nearestTo_52 : decode cX7_nearestTo 52 = .ok (.aload_n 0, 1) := by decide +kernel
theorem dX7_nearestTo_53 : decode cX7_nearestTo 53 = .ok (.getfield 7, 3) := by decide +kernel
theorem dX7_nearestTo_56 : decode cX7_nearestTo 56 = .ok (.sipush 308, 3) := by decide +kernel
theorem dX7_nearestTo_59 : decode cX7_nearestTo 59 = .ok (.iload 4, 2) := by decide +kernel
theorem dX7_nearestTo_61 : decode cX7_nearestTo 61 = .ok (.iadd, 1) := by decide +kernel
theorem dX7_nearestTo_62 : decode cX7_nearestTo 62 = .ok (.iaload, 1) := by decide +kernel
theorem dX7_nearestTo_63 : decode cX7_nearestTo 63 = .ok (.ifCond .gt 13, 3) := by decide +kernel
theorem dX7_nearestTo_66 : decode cX7_nearestTo 66 = .ok (.aload_n 0, 1) := by decide +kernel
theorem dX7_nearestTo_67 : decode cX7_nearestTo 67 = .ok (.iload 4, 2) := by decide +kernel
theorem dX7_nearestTo_69 : decode cX7_nearestTo 69 = .ok (.invokevirtual 129, 3) := by decide +kernel
theorem dX7_nearestTo_72 : decode cX7_nearestTo 72 = .ok (.iconst (-1), 1) := by decide +kernel
theorem dX7_nearestTo_73 : decode cX7_nearestTo 73 = .ok (.if_icmp .eq 6, 3) := by decide +kernel
theorem dX7_nearestTo_76 : decode cX7_nearestTo 76 = .ok (.iload 4, 2) := by decide +kernel
theorem dX7_nearestTo_78 : decode cX7_nearestTo 78 = .ok (.ireturn, 1) := by decide +kernel
theorem dX7_nearestTo_79 : decode cX7_nearestTo 79 = .ok (.iinc 2 1, 3) := by decide +kernel
theorem dX7_nearestTo_82 : decode cX7_nearestTo 82 = .ok (.goto (-80), 3) := by decide +kernel
theorem dX7_nearestTo_85 : decode cX7_nearestTo 85 = .ok (.iconst (-1), 1) := by decide +kernel
theorem dX7_nearestTo_86 : decode cX7_nearestTo 86 = .ok (.ireturn, 1) := by decide +kernel
theorem dX7_lays_0 : decode cX7_lays 0 = .ok (.aload_n 0, 1) := by decide +kernel
theorem dX7_lays_1 : decode cX7_lays 1 = .ok (.aload_n 0, 1) := by decide +kernel
theorem dX7_lays_2 : decode cX7_lays 2 = .ok (.iload_n 1, 1) := by decide +kernel
theorem dX7_lays_3 : decode cX7_lays 3 = .ok (.invokevirtual 72, 3) := by decide +kernel
theorem dX7_lays_6 : decode cX7_lays 6 = .ok (.invokevirtual 132, 3) := by decide +kernel
theorem dX7_lays_9 : decode cX7_lays 9 = .ok (.istore_n 2, 1) := by decide +kernel
theorem dX7_lays_10 : decode cX7_lays 10 = .ok (.iload_n 2, 1) := by decide +kernel
theorem dX7_lays_11 : decode cX7_lays 11 = .ok (.iconst (-1), 1) := by decide +kernel
theorem dX7_lays_12 : decode cX7_lays 12 = .ok (.if_icmp .ne 5, 3) := by decide +kernel
theorem dX7_lays_15 : decode cX7_lays 15 = .ok (.iconst (-1), 1) := by decide +kernel
theorem dX7_lays_16 : decode cX7_lays 16 = .ok (.ireturn, 1) := by decide +kernel
theorem dX7_lays_17 : decode cX7_lays 17 = .ok (.aload_n 0, 1) := by decide +kernel
theorem dX7_lays_18 : decode cX7_lays 18 = .ok (.getfield 7, 3) := by decide +kernel
theorem dX7_lays_21 : decode cX7_lays 21 = .ok (.sipush 308, 3) := by decide +kernel
theorem dX7_lays_24 : decode cX7_lays 24 = .ok (.iload_n 2, 1) := by decide +kernel
theorem dX7_lays_25 : decode cX7_lays 25 = .ok (.iadd, 1) := by decide +kernel
theorem dX7_lays_26 : decode cX7_lays 26 = .ok (.iaload, 1) := by decide +kernel
theorem dX7_lays_27 : decode cX7_lays 27 = .ok (.ifCond .le 20, 3) := by decide +kernel
theorem dX7_lays_30 : decode cX7_lays 30 = .ok (.aload_n 0, 1) := by decide +kernel
theorem dX7_lays_31 : decode cX7_lays 31 = .ok (.getfield 7, 3) := by decide +kernel
theorem dX7_lays_34 : decode cX7_lays 34 = .ok (.sipush 308, 3) := by decide +kernel
theorem dX7_lays_37 : decode cX7_lays 37 = .ok (.iload_n 2, 1) := by decide +kernel
theorem dX7_lays_38 : decode cX7_lays 38 = .ok (.iadd, 1) := by decide +kernel
theorem dX7_lays_39 : decode cX7_lays 39 = .ok (.dup2, 1) := by decide +kernel
theorem dX7_lays_40 : decode cX7_lays 40 = .ok (.iaload, 1) := by decide +kernel
theorem dX7_lays_41 : decode cX7_lays 41 = .ok (.iconst 1, 1) := by decide +kernel
theorem dX7_lays_42 : decode cX7_lays 42 = .ok (.isub, 1) := by decide +kernel
theorem dX7_lays_43 : decode cX7_lays 43 = .ok (.iastore, 1) := by decide +kernel
theorem dX7_lays_44 : decode cX7_lays 44 = .ok (.goto 27, 3) := by decide +kernel
theorem dX7_lays_47 : decode cX7_lays 47 = .ok (.aload_n 0, 1) := by decide +kernel
theorem dX7_lays_48 : decode cX7_lays 48 = .ok (.iload_n 2, 1) := by decide +kernel
theorem dX7_lays_49 : decode cX7_lays 49 = .ok (.invokevirtual 129, 3) := by decide +kernel
theorem dX7_lays_52 : decode cX7_lays 52 = .ok (.istore_n 3, 1) := by decide +kernel
theorem dX7_lays_53 : decode cX7_lays 53 = .ok (.iconst 0, 1) := by decide +kernel
theorem dX7_lays_54 : decode cX7_lays 54 = .ok (.istore 4, 2) := by decide +kernel
theorem dX7_lays_56 : decode cX7_lays 56 = .ok (.iload 4, 2) := by decide +kernel
theorem dX7_lays_58 : decode cX7_lays 58 = .ok (.ifCond .ne 13, 3) := by decide +kernel
theorem dX7_lays_61 : decode cX7_lays 61 = .ok (.aload_n 0, 1) := by decide +kernel
theorem dX7_lays_62 : decode cX7_lays 62 = .ok (.iload_n 3, 1) := by decide +kernel
theorem dX7_lays_63 : decode cX7_lays 63 = .ok (.invokevirtual 119, 3) := by decide +kernel
theorem dX7_lays_66 : decode cX7_lays 66 = .ok (.istore 4, 2) := by decide +kernel
theorem dX7_lays_68 : decode cX7_lays 68 = .ok (.goto (-12), 3) := by decide +kernel
theorem dX7_lays_71 : decode cX7_lays 71 = .ok (.aload_n 0, 1) := by decide +kernel
theorem dX7_lays_72 : decode cX7_lays 72 = .ok (.getfield 7, 3) := by decide +kernel
theorem dX7_lays_75 : decode cX7_lays 75 = .ok (.sipush 164, 3) := by decide +kernel
theorem dX7_lays_78 : decode cX7_lays 78 = .ok (.iload_n 1, 1) := by decide +kernel
theorem dX7_lays_79 : decode cX7_lays 79 = .ok (.iadd, 1) := by decide +kernel
theorem dX7_lays_80 : decode cX7_lays 80 = .ok (.iload_n 2, 1) := by decide +kernel
theorem dX7_lays_81 : decode cX7_lays 81 = .ok (.iastore, 1) := by decide +kernel
theorem dX7_lays_82 : decode cX7_lays 82 = .ok (.iload_n 2, 1) := by decide +kernel
theorem dX7_lays_83 : decode cX7_lays 83 = .ok (.ireturn, 1) := by decide +kernel
theorem dX7_lay_0 : decode cX7_lay 0 = .ok (.aload_n 0, 1) := by decide +kernel
theorem dX7_lay_1 : decode cX7_lay 1 = .ok (.iload_n 1, 1) := by decide +kernel
theorem dX7_lay_2 : decode cX7_lay 2 = .ok (.iload_n 2, 1) := by decide +kernel
theorem dX7_lay_3 : decode cX7_lay 3 = .ok (.invokevirtual 68, 3) := by decide +kernel
theorem dX7_lay_6 : decode cX7_lay 6 = .ok (.ifCond .ne 5, 3) := by decide +kernel
theorem dX7_lay_9 : decode cX7_lay 9 = .ok (.iconst (-1), 1) := by decide +kernel
theorem dX7_lay_10 : decode cX7_lay 10 = .ok (.ireturn, 1) := by decide +kernel
theorem dX7_lay_11 : decode cX7_lay 11 = .ok (.iload_n 1, 1) := by decide +kernel
theorem dX7_lay_12 : decode cX7_lay 12 = .ok (.iload_n 2, 1) := by decide +kernel
theorem dX7_lay_13 : decode cX7_lay 13 = .ok (.aload_n 0, 1) := by decide +kernel
theorem dX7_lay_14 : decode cX7_lay 14 = .ok (.getfield 7, 3) := by decide +kernel
theorem dX7_lay_17 : decode cX7_lay 17 = .ok (.iconst 0, 1) := by decide +kernel
theorem dX7_lay_18 : decode cX7_lay 18 = .ok (.iaload, 1) := by decide +kernel
theorem dX7_lay_19 : decode cX7_lay 19 = .ok (.imul, 1) := by decide +kernel
theorem dX7_lay_20 : decode cX7_lay 20 = .ok (.iadd, 1) := by decide +kernel
theorem dX7_lay_21 : decode cX7_lay 21 = .ok (.istore_n 3, 1) := by decide +kernel
theorem dX7_lay_22 : decode cX7_lay 22 = .ok (.aload_n 0, 1) := by decide +kernel
theorem dX7_lay_23 : decode cX7_lay 23 = .ok (.getfield 7, 3) := by decide +kernel
theorem dX7_lay_26 : decode cX7_lay 26 = .ok (.sipush 164, 3) := by decide +kernel
theorem dX7_lay_29 : decode cX7_lay 29 = .ok (.iload_n 3, 1) := by decide +kernel
theorem dX7_lay_30 : decode cX7_lay 30 = .ok (.iadd, 1) := by decide +kernel
theorem dX7_lay_31 : decode cX7_lay 31 = .ok (.iaload, 1) := by decide +kernel
theorem dX7_lay_32 : decode cX7_lay 32 = .ok (.iconst (-1), 1) := by decide +kernel
theorem dX7_lay_33 : decode cX7_lay 33 = .ok (.if_icmp .ne 16, 3) := by decide +kernel
theorem dX7_lay_36 : decode cX7_lay 36 = .ok (.aload_n 0, 1) := by decide +kernel
theorem dX7_lay_37 : decode cX7_lay 37 = .ok (.aload_n 0, 1) := by decide +kernel
theorem dX7_lay_38 : decode cX7_lay 38 = .ok (.iload_n 3, 1) := by decide +kernel
theorem dX7_lay_39 : decode cX7_lay 39 = .ok (.invokevirtual 72, 3) := by decide +kernel
theorem dX7_lay_42 : decode cX7_lay 42 = .ok (.invokevirtual 132, 3) := by decide +kernel
theorem dX7_lay_45 : decode cX7_lay 45 = .ok (.iconst (-1), 1) := by decide +kernel
theorem dX7_lay_46 : decode cX7_lay 46 = .ok (.if_icmp .ne 6, 3) := by decide +kernel
theorem dX7_lay_49 : decode cX7_lay 49 = .ok (.bipush (-2), 2) := by decide +kernel
theorem dX7_lay_51 : decode cX7_lay 51 = .ok (.ireturn, 1) := by decide +kernel
theorem dX7_lay_52 : decode cX7_lay 52 = .ok (.aload_n 0, 1) := by decide +kernel
theorem dX7_lay_53 : decode cX7_lay 53 = .ok (.invokevirtual 62, 3) := by decide +kernel
theorem dX7_lay_56 : decode cX7_lay 56 = .ok (.aload_n 0, 1) := by decide +kernel
theorem dX7_lay_57 : decode cX7_lay 57 = .ok (.iload_n 3, 1) := by decide +kernel
theorem dX7_lay_58 : decode cX7_lay 58 = .ok (.invokevirtual 135, 3) := by decide +kernel
theorem dX7_lay_61 : decode cX7_lay 61 = .ok (.ireturn, 1) := by decide +kernel
theorem dX7_laysIfEmpty_0 : decode cX7_laysIfEmpty 0 = .ok (.aload_n 0, 1) := by decide +kernel
theorem dX7_laysIfEmpty_1 : decode cX7_laysIfEmpty 1 = .ok (.getfield 7, 3) := by decide +kernel
theorem dX7_laysIfEmpty_4 : decode cX7_laysIfEmpty 4 = .ok (.sipush 164, 3) := by decide +kernel
theorem dX7_laysIfEmpty_7 : decode cX7_laysIfEmpty 7 = .ok (.iload_n 1, 1) := by decide +kernel
theorem dX7_laysIfEmpty_8 : decode cX7_laysIfEmpty 8 = .ok (.iadd, 1) := by decide +kernel
theorem dX7_laysIfEmpty_9 : decode cX7_laysIfEmpty 9 = .ok (.iaload, 1) := by decide +kernel
theorem dX7_laysIfEmpty_10 : decode cX7_laysIfEmpty 10 = .ok (.iconst (-1), 1) := by decide +kernel
theorem dX7_laysIfEmpty_11 : decode cX7_laysIfEmpty 11 = .ok (.if_icmp .ne 16, 3) := by decide +kernel
theorem dX7_laysIfEmpty_14 : decode cX7_laysIfEmpty 14 = .ok (.aload_n 0, 1) := by decide +kernel
theorem dX7_laysIfEmpty_15 : decode cX7_laysIfEmpty 15 = .ok (.iload_n 1, 1) := by decide +kernel
theorem dX7_laysIfEmpty_16 : decode cX7_laysIfEmpty 16 = .ok (.invokevirtual 135, 3) := by decide +kernel
theorem dX7_laysIfEmpty_19 : decode cX7_laysIfEmpty 19 = .ok (.iconst (-1), 1) := by decide +kernel
theorem dX7_laysIfEmpty_20 : decode cX7_laysIfEmpty 20 = .ok (.if_icmp .eq 7, 3) := by decide +kernel
theorem dX7_laysIfEmpty_23 : decode cX7_laysIfEmpty 23 = .ok (.iconst 1, 1) := by decide +kernel
theorem dX7_laysIfEmpty_24 : decode cX7_laysIfEmpty 24 = .ok (.goto 4, 3) := by decide +kernel
theorem dX7_laysIfEmpty_27 : decode cX7_laysIfEmpty 27 = .ok (.iconst 0, 1) := by decide +kernel
theorem dX7_laysIfEmpty_28 : decode cX7_laysIfEmpty 28 = .ok (.ireturn, 1) := by decide +kernel
theorem dX7_laysAll_0 : decode cX7_laysAll 0 = .ok (.iconst 0, 1) := by decide +kernel
theorem dX7_laysAll_1 : decode cX7_laysAll 1 = .ok (.istore_n 1, 1) := by decide +kernel
theorem dX7_laysAll_2 : decode cX7_laysAll 2 = .ok (.aload_n 0, 1) := by decide +kernel
theorem dX7_laysAll_3 : decode cX7_laysAll 3 = .ok (.getfield 7, 3) := by decide +kernel
theorem dX7_laysAll_6 : decode cX7_laysAll 6 = .ok (.iconst 0, 1) := by decide +kernel
theorem dX7_laysAll_7 : decode cX7_laysAll 7 = .ok (.iaload, 1) := by decide +kernel
theorem dX7_laysAll_8 : decode cX7_laysAll 8 = .ok (.iconst 1, 1) := by decide +kernel
theorem dX7_laysAll_9 : decode cX7_laysAll 9 = .ok (.isub, 1) := by decide +kernel
theorem dX7_laysAll_10 : decode cX7_laysAll 10 = .ok (.istore_n 2, 1) := by decide +kernel
theorem dX7_laysAll_11 : decode cX7_laysAll 11 = .ok (.aload_n 0, 1) := by decide +kernel
theorem dX7_laysAll_12 : decode cX7_laysAll 12 = .ok (.getfield 7, 3) := by decide +kernel
theorem dX7_laysAll_15 : decode cX7_laysAll 15 = .ok (.iconst 1, 1) := by decide +kernel
theorem dX7_laysAll_16 : decode cX7_laysAll 16 = .ok (.iaload, 1) := by decide +kernel
theorem dX7_laysAll_17 : decode cX7_laysAll 17 = .ok (.iconst 1, 1) := by decide +kernel
theorem dX7_laysAll_18 : decode cX7_laysAll 18 = .ok (.isub, 1) := by decide +kernel
theorem dX7_laysAll_19 : decode cX7_laysAll 19 = .ok (.istore_n 3, 1) := by decide +kernel
theorem dX7_laysAll_20 : decode cX7_laysAll 20 = .ok (.iconst 0, 1) := by decide +kernel
theorem dX7_laysAll_21 : decode cX7_laysAll 21 = .ok (.istore 4, 2) := by decide +kernel
theorem dX7_laysAll_23 : decode cX7_laysAll 23 = .ok (.iload 4, 2) := by decide +kernel
theorem dX7_laysAll_25 : decode cX7_laysAll 25 = .ok (.aload_n 0, 1) := by decide +kernel
theorem dX7_laysAll_26 : decode cX7_laysAll 26 = .ok (.invokevirtual 56, 3) := by decide +kernel
theorem dX7_laysAll_29 : decode cX7_laysAll 29 = .ok (.if_icmp .ge 126, 3) := by decide +kernel
theorem dX7_laysAll_32 : decode cX7_laysAll 32 = .ok (.iload 4, 2) := by decide +kernel
theorem dX7_laysAll_34 : decode cX7_laysAll 34 = .ok (.iload_n 2, 1) := by decide +kernel
theorem dX7_laysAll_35 : decode cX7_laysAll 35 = .ok (.if_icmp .ge 8, 3) := by decide +kernel
theorem dX7_laysAll_38 : decode cX7_laysAll 38 = .ok (.iload 4, 2) := by decide +kernel
theorem dX7_laysAll_40 : decode cX7_laysAll 40 = .ok (.goto 37, 3) := by decide +kernel
theorem dX7_laysAll_43 : decode cX7_laysAll 43 = .ok (.iload 4, 2) := by decide +kernel
theorem dX7_laysAll_45 : decode cX7_laysAll 45 = .ok (.iload_n 2, 1) := by decide +kernel
theorem dX7_laysAll_46 : decode cX7_laysAll 46 = .ok (.iload_n 3, 1) := by decide +kernel
theorem dX7_laysAll_47 : decode cX7_laysAll 47 = .ok (.iadd, 1) := by decide +kernel
theorem dX7_laysAll_48 : decode cX7_laysAll 48 = .ok (.if_icmp .ge 7, 3) := by decide +kernel
theorem dX7_laysAll_51 : decode cX7_laysAll 51 = .ok (.iload_n 2, 1) := by decide +kernel
theorem dX7_laysAll_52 : decode cX7_laysAll 52 = .ok (.goto 25, 3) := by decide +kernel
theorem dX7_laysAll_55 : decode cX7_laysAll 55 = .ok (.iload 4, 2) := by decide +kernel
theorem dX7_laysAll_57 : decode cX7_laysAll 57 = .ok (.iconst 2, 1) := by decide +kernel
theorem dX7_laysAll_58 : decode cX7_laysAll 58 = .ok (.iload_n 2, 1) := by decide +kernel
theorem dX7_laysAll_59 : decode cX7_laysAll 59 = .ok (.imul, 1) := by decide +kernel
theorem dX7_laysAll_60 : decode cX7_laysAll 60 = .ok (.iload_n 3, 1) := by decide +kernel
theorem dX7_laysAll_61 : decode cX7_laysAll 61 = .ok (.iadd, 1) := by decide +kernel
theorem dX7_laysAll_62 : decode cX7_laysAll 62 = .ok (.if_icmp .ge 14, 3) := by decide +kernel
theorem dX7_laysAll_65 : decode cX7_laysAll 65 = .ok (.iconst 2, 1) := by decide +kernel
theorem dX7_laysAll_66 : decode cX7_laysAll 66 = .ok (.iload_n 2, 1) := by decide +kernel
theorem dX7_laysAll_67 : decode cX7_laysAll 67 = .ok (.imul, 1) := by decide +kernel
theorem dX7_laysAll_68 : decode cX7_laysAll 68 = .ok (.iload_n 3, 1) := by decide +kernel
theorem dX7_laysAll_69 : decode cX7_laysAll 69 = .ok (.iadd, 1) := by decide +kernel
theorem dX7_laysAll_70 : decode cX7_laysAll 70 = .ok (.iload 4, 2) := by decide +kernel
theorem dX7_laysAll_72 : decode cX7_laysAll 72 = .ok (.isub, 1) := by decide +kernel
theorem dX7_laysAll_73 : decode cX7_laysAll 73 = .ok (.goto 4, 3) := by decide +kernel
theorem dX7_laysAll_76 : decode cX7_laysAll 76 = .ok (.iconst 0, 1) := by decide +kernel
theorem dX7_laysAll_77 : decode cX7_laysAll 77 = .ok (.istore 5, 2) := by decide +kernel
theorem dX7_laysAll_79 : decode cX7_laysAll 79 = .ok (.iload 4, 2) := by decide +kernel
theorem dX7_laysAll_81 : decode cX7_laysAll 81 = .ok (.iload_n 2, 1) := by decide +kernel
theorem dX7_laysAll_82 : decode cX7_laysAll 82 = .ok (.if_icmp .ge 7, 3) := by decide +kernel
theorem dX7_laysAll_85 : decode cX7_laysAll 85 = .ok (.iconst 0, 1) := by decide +kernel
theorem dX7_laysAll_86 : decode cX7_laysAll 86 = .ok (.goto 42, 3) := by decide +kernel
theorem dX7_laysAll_89 : decode cX7_laysAll 89 = .ok (.iload 4, 2) := by decide +kernel
theorem dX7_laysAll_91 : decode cX7_laysAll 91 = .ok (.iload_n 2, 1) := by decide +kernel
theorem dX7_laysAll_92 : decode cX7_laysAll 92 = .ok (.iload_n 3, 1) := by decide +kernel
theorem dX7_laysAll_93 : decode cX7_laysAll 93 = .ok (.iadd, 1) := by decide +kernel
theorem dX7_laysAll_94 : decode cX7_laysAll 94 = .ok (.if_icmp .ge 10, 3) := by decide +kernel
theorem dX7_laysAll_97 : decode cX7_laysAll 97 = .ok (.iload 4, 2) := by decide +kernel
theorem dX7_laysAll_99 : decode cX7_laysAll 99 = .ok (.iload_n 2, 1) := by decide +kernel
theorem dX7_laysAll_100 : decode cX7_laysAll 100 = .ok (.isub, 1) := by decide +kernel
theorem dX7_laysAll_101 : decode cX7_laysAll 101 = .ok (.goto 27, 3) := by decide +kernel
theorem dX7_laysAll_104 : decode cX7_laysAll 104 = .ok (.iload 4, 2) := by decide +kernel
theorem dX7_laysAll_106 : decode cX7_laysAll 106 = .ok (.iconst 2, 1) := by decide +kernel
theorem dX7_laysAll_107 : decode cX7_laysAll 107 = .ok (.iload_n 2, 1) := by decide +kernel
theorem dX7_laysAll_108 : decode cX7_laysAll 108 = .ok (.imul, 1) := by decide +kernel
theorem dX7_laysAll_109 : decode cX7_laysAll 109 = .ok (.iload_n 3, 1) := by decide +kernel
theorem dX7_laysAll_110 : decode cX7_laysAll 110 = .ok (.iadd, 1) := by decide +kernel
theorem dX7_laysAll_111 : decode cX7_laysAll 111 = .ok (.if_icmp .ge 7, 3) := by decide +kernel
theorem dX7_laysAll_114 : decode cX7_laysAll 114 = .ok (.iload_n 3, 1) := by decide +kernel
theorem dX7_laysAll_115 : decode cX7_laysAll 115 = .ok (.goto 13, 3) := by decide +kernel
theorem dX7_laysAll_118 : decode cX7_laysAll 118 = .ok (.iconst 2, 1) := by decide +kernel
theorem dX7_laysAll_119 : decode cX7_laysAll 119 = .ok (.iload_n 2, 1) := by decide +kernel
theorem dX7_laysAll_120 : decode cX7_laysAll 120 = .ok (.imul, 1) := by decide +kernel
theorem dX7_laysAll_121 : decode cX7_laysAll 121 = .ok (.iconst 2, 1) := by decide +kernel
theorem dX7_laysAll_122 : decode cX7_laysAll 122 = .ok (.iload_n 3, 1) := by decide +kernel
theorem dX7_laysAll_123 : decode cX7_laysAll 123 = .ok (.imul, 1) := by decide +kernel
theorem dX7_laysAll_124 : decode cX7_laysAll 124 = .ok (.iadd, 1) := by decide +kernel
theorem dX7_laysAll_125 : decode cX7_laysAll 125 = .ok (.iload 4, 2) := by decide +kernel
theorem dX7_laysAll_127 : decode cX7_laysAll 127 = .ok (.isub, 1) := by decide +kernel
theorem dX7_laysAll_128 : decode cX7_laysAll 128 = .ok (.istore 6, 2) := by decide +kernel
theorem dX7_laysAll_130 : decode cX7_laysAll 130 = .ok (.iload_n 1, 1) := by decide +kernel
theorem dX7_laysAll_131 : decode cX7_laysAll 131 = .ok (.aload_n 0, 1) := by decide +kernel
theorem dX7_laysAll_132 : decode cX7_laysAll 132 = .ok (.iload 5, 2) := by decide +kernel
theorem dX7_laysAll_134 : decode cX7_laysAll 134 = .ok (.iload 6, 2) := by decide +kernel
theorem dX7_laysAll_136 : decode cX7_laysAll 136 = .ok (.aload_n 0, 1) := by decide +kernel
theorem dX7_laysAll_137 : decode cX7_laysAll 137 = .ok (.getfield 7, 3) := by decide +kernel
theorem dX7_laysAll_140 : decode cX7_laysAll 140 = .ok (.iconst 0, 1) := by decide +kernel
theorem dX7_laysAll_141 : decode cX7_laysAll 141 = .ok (.iaload, 1) := by decide +kernel
theorem dX7_laysAll_142 : decode cX7_laysAll 142 = .ok (.imul, 1) := by decide +kernel
theorem dX7_laysAll_143 : decode cX7_laysAll 143 = .ok (.iadd, 1) := by decide +kernel
theorem dX7_laysAll_144 : decode cX7_laysAll 144 = .ok (.invokevirtual 138, 3) := by decide +kernel
theorem dX7_laysAll_147 : decode cX7_laysAll 147 = .ok (.iadd, 1) := by decide +kernel
theorem dX7_laysAll_148 : decode cX7_laysAll 148 = .ok (.istore_n 1, 1) := by decide +kernel
theorem dX7_laysAll_149 : decode cX7_laysAll 149 = .ok (.iinc 4 1, 3) := by decide +kernel
theorem dX7_laysAll_152 : decode cX7_laysAll 152 = .ok (.goto (-129), 3) := by decide +kernel
theorem dX7_laysAll_155 : decode cX7_laysAll 155 = .ok (.iconst 0, 1) := by decide +kernel
theorem dX7_laysAll_156 : decode cX7_laysAll 156 = .ok (.istore 4, 2) := by decide +kernel
theorem dX7_laysAll_158 : decode cX7_laysAll 158 = .ok (.iload 4, 2) := by decide +kernel
theorem dX7_laysAll_160 : decode cX7_laysAll 160 = .ok (.aload_n 0, 1) := by decide +kernel
theorem dX7_laysAll_161 : decode cX7_laysAll 161 = .ok (.invokevirtual 41, 3) := by decide +kernel
theorem dX7_laysAll_164 : decode cX7_laysAll 164 = .ok (.if_icmp .ge 18, 3) := by decide +kernel
theorem dX7_laysAll_167 : decode cX7_laysAll 167 = .ok (.iload_n 1, 1) := by decide +kernel
theorem dX7_laysAll_168 : decode cX7_laysAll 168 = .ok (.aload_n 0, 1) := by decide +kernel
theorem dX7_laysAll_169 : decode cX7_laysAll 169 = .ok (.iload 4, 2) := by decide +kernel
theorem dX7_laysAll_171 : decode cX7_laysAll 171 = .ok (.invokevirtual 138, 3) := by decide +kernel
theorem dX7_laysAll_174 : decode cX7_laysAll 174 = .ok (.iadd, 1) := by decide +kernel
theorem dX7_laysAll_175 : decode cX7_laysAll 175 = .ok (.istore_n 1, 1) := by decide +kernel
theorem dX7_laysAll_176 : decode cX7_laysAll 176 = .ok (.iinc 4 1, 3) := by decide +kernel
theorem dX7_laysAll_179 : decode cX7_laysAll 179 = .ok (.goto (-21), 3) := by decide +kernel
theorem dX7_laysAll_182 : decode cX7_laysAll 182 = .ok (.iload_n 1, 1) := by decide +kernel
theorem dX7_laysAll_183 : decode cX7_laysAll 183 = .ok (.ireturn, 1) := by decide +kernel
theorem dX7_layAll_0 : decode cX7_layAll 0 = .ok (.aload_n 0, 1) := by decide +kernel
theorem dX7_layAll_1 : decode cX7_layAll 1 = .ok (.invokevirtual 62, 3) := by decide +kernel
theorem dX7_layAll_4 : decode cX7_layAll 4 = .ok (.aload_n 0, 1) := by decide +kernel
theorem dX7_layAll_5 : decode cX7_layAll 5 = .ok (.invokevirtual 141, 3) := by decide +kernel
theorem dX7_layAll_8 : decode cX7_layAll 8 = .ok (.ireturn, 1) := by decide +kernel
theorem dX7_lift_0 : decode cX7_lift 0 = .ok (.aload_n 0, 1) := by decide +kernel
theorem dX7_lift_1 : decode cX7_lift 1 = .ok (.iload_n 1, 1) := by decide +kernel
theorem dX7_lift_2 : decode cX7_lift 2 = .ok (.iload_n 2, 1) := by decide +kernel
theorem dX7_lift_3 : decode cX7_lift 3 = .ok (.invokevirtual 68, 3) := by decide +kernel
theorem dX7_lift_6 : decode cX7_lift 6 = .ok (.ifCond .ne 5, 3) := by decide +kernel
theorem dX7_lift_9 : decode cX7_lift 9 = .ok (.iconst (-1), 1) := by decide +kernel
theorem dX7_lift_10 : decode cX7_lift 10 = .ok (.ireturn, 1) := by decide +kernel
theorem dX7_lift_11 : decode cX7_lift 11 = .ok (.iload_n 1, 1) := by decide +kernel
theorem dX7_lift_12 : decode cX7_lift 12 = .ok (.iload_n 2, 1) := by decide +kernel
theorem dX7_lift_13 : decode cX7_lift 13 = .ok (.aload_n 0, 1) := by decide +kernel
theorem dX7_lift_14 : decode cX7_lift 14 = .ok (.getfield 7, 3) := by decide +kernel
theorem dX7_lift_17 : decode cX7_lift 17 = .ok (.iconst 0, 1) := by decide +kernel
theorem dX7_lift_18 : decode cX7_lift 18 = .ok (.iaload, 1) := by decide +kernel
theorem dX7_lift_19 : decode cX7_lift 19 = .ok (.imul, 1) := by decide +kernel
theorem dX7_lift_20 : decode cX7_lift 20 = .ok (.iadd, 1) := by decide +kernel
theorem dX7_lift_21 : decode cX7_lift 21 = .ok (.istore_n 3, 1) := by decide +kernel
theorem dX7_lift_22 : decode cX7_lift 22 = .ok (.aload_n 0, 1) := by decide +kernel
theorem dX7_lift_23 : decode cX7_lift 23 = .ok (.getfield 7, 3) := by decide +kernel
theorem dX7_lift_26 : decode cX7_lift 26 = .ok (.sipush 164, 3) := by decide +kernel
theorem dX7_lift_29 : decode cX7_lift 29 = .ok (.iload_n 3, 1) := by decide +kernel
theorem dX7_lift_30 : decode cX7_lift 30 = .ok (.iadd, 1) := by decide +kernel
theorem dX7_lift_31 : decode cX7_lift 31 = .ok (.iaload, 1) := by decide +kernel
theorem dX7_lift_32 : decode cX7_lift 32 = .ok (.iconst (-1), 1) := by decide +kernel
theorem dX7_lift_33 : decode cX7_lift 33 = .ok (.if_icmp .ne 6, 3) := by decide +kernel
theorem dX7_lift_36 : decode cX7_lift 36 = .ok (.bipush (-2), 2) := by decide +kernel
theorem dX7_lift_38 : decode cX7_lift 38 = .ok (.ireturn, 1) := by decide +kernel
theorem dX7_lift_39 : decode cX7_lift 39 = .ok (.aload_n 0, 1) := by decide +kernel
theorem dX7_lift_40 : decode cX7_lift 40 = .ok (.invokevirtual 62, 3) := by decide +kernel
theorem dX7_lift_43 : decode cX7_lift 43 = .ok (.aload_n 0, 1) := by decide +kernel
theorem dX7_lift_44 : decode cX7_lift 44 = .ok (.getfield 7, 3) := by decide +kernel
theorem dX7_lift_47 : decode cX7_lift 47 = .ok (.bipush 7, 2) := by decide +kernel
theorem dX7_lift_49 : decode cX7_lift 49 = .ok (.dup2, 1) := by decide +kernel
theorem dX7_lift_50 : decode cX7_lift 50 = .ok (.iaload, 1) := by decide +kernel
theorem dX7_lift_51 : decode cX7_lift 51 = .ok (.iconst 1, 1) := by decide +kernel
theorem dX7_lift_52 : decode cX7_lift 52 = .ok (.iadd, 1) := by decide +kernel
theorem dX7_lift_53 : decode cX7_lift 53 = .ok (.iastore, 1) := by decide +kernel
theorem dX7_lift_54 : decode cX7_lift 54 = .ok (.aload_n 0, 1) := by decide +kernel
theorem dX7_lift_55 : decode cX7_lift 55 = .ok (.getfield 7, 3) := by decide +kernel
theorem dX7_lift_58 : decode cX7_lift 58 = .ok (.bipush 7, 2) := by decide +kernel
theorem dX7_lift_60 : decode cX7_lift 60 = .ok (.iaload, 1) := by decide +kernel
theorem dX7_lift_61 : decode cX7_lift 61 = .ok (.iconst 3, 1) := by decide +kernel
theorem dX7_lift_62 : decode cX7_lift 62 = .ok (.irem, 1) := by decide +kernel
theorem dX7_lift_63 : decode cX7_lift 63 = .ok (.ifCond .eq 7, 3) := by decide +kernel
theorem dX7_lift_66 : decode cX7_lift 66 = .ok (.iconst 1, 1) := by decide +kernel
theorem dX7_lift_67 : decode cX7_lift 67 = .ok (.goto 4, 3) := by decide +kernel
theorem dX7_lift_70 : decode cX7_lift 70 = .ok (.iconst 0, 1) := by decide +kernel
theorem dX7_lift_71 : decode cX7_lift 71 = .ok (.istore 4, 2) := by decide +kernel
theorem dX7_lift_73 : decode cX7_lift 73 = .ok (.aload_n 0, 1) := by decide +kernel
theorem dX7_lift_74 : decode cX7_lift 74 = .ok (.getfield 7, 3) := by decide +kernel
theorem dX7_lift_77 : decode cX7_lift 77 = .ok (.sipush 308, 3) := by decide +kernel
theorem dX7_lift_80 : decode cX7_lift 80 = .ok (.aload_n 0, 1) := by decide +kernel
theorem dX7_lift_81 : decode cX7_lift 81 = .ok (.getfield 7, 3) := by decide +kernel
theorem dX7_lift_84 : decode cX7_lift 84 = .ok (.sipush 164, 3) := by decide +kernel
theorem dX7_lift_87 : decode cX7_lift 87 = .ok (.iload_n 3, 1) := by decide +kernel
theorem dX7_lift_88 : decode cX7_lift 88 = .ok (.iadd, 1) := by decide +kernel
theorem dX7_lift_89 : decode cX7_lift 89 = .ok (.iaload, 1) := by decide +kernel
theorem dX7_lift_90 : decode cX7_lift 90 = .ok (.iadd, 1) := by decide +kernel
theorem dX7_lift_91 : decode cX7_lift 91 = .ok (.dup2, 1) := by decide +kernel
theorem dX7_lift_92 : decode cX7_lift 92 = .ok (.iaload, 1) := by decide +kernel
theorem dX7_lift_93 : decode cX7_lift 93 = .ok (.iload 4, 2) := by decide +kernel
theorem dX7_lift_95 : decode cX7_lift 95 = .ok (.ifCond .eq 7, 3) := by decide +kernel
theorem dX7_lift_98 : decode cX7_lift 98 = .ok (.iconst 1, 1) := by decide +kernel
theorem dX7_lift_99 : decode cX7_lift 99 = .ok (.goto 4, 3) := by decide +kernel
theorem dX7_lift_102 : decode cX7_lift 102 = .ok (.iconst 0, 1) := by decide +kernel
theorem dX7_lift_103 : decode cX7_lift 103 = .ok (.iadd, 1) := by decide +kernel
theorem dX7_lift_104 : decode cX7_lift 104 = .ok (.iastore, 1) := by decide +kernel
theorem dX7_lift_105 : decode cX7_lift 105 = .ok (.aload_n 0, 1) := by decide +kernel
theorem dX7_lift_106 : decode cX7_lift 106 = .ok (.getfield 7, 3) := by decide +kernel
theorem dX7_lift_109 : decode cX7_lift 109 = .ok (.bipush 8, 2) := by decide +kernel
theorem dX7_lift_111 : decode cX7_lift 111 = .ok (.dup2, 1) := by decide +kernel
theorem dX7_lift_112 : decode cX7_lift 112 = .ok (.iaload, 1) := by decide +kernel
theorem dX7_lift_113 : decode cX7_lift 113 = .ok (.iload 4, 2) := by decide +kernel
theorem dX7_lift_115 : decode cX7_lift 115 = .ok (.ifCond .eq 7, 3) := by decide +kernel
theorem dX7_lift_118 : decode cX7_lift 118 = .ok (.iconst 0, 1) := by decide +kernel
theorem dX7_lift_119 : decode cX7_lift 119 = .ok (.goto 4, 3) := by decide +kernel
theorem dX7_lift_122 : decode cX7_lift 122 = .ok (.iconst 1, 1) := by decide +kernel
theorem dX7_lift_123 : decode cX7_lift 123 = .ok (.iadd, 1) := by decide +kernel
theorem dX7_lift_124 : decode cX7_lift 124 = .ok (.iastore, 1) := by decide +kernel
theorem dX7_lift_125 : decode cX7_lift 125 = .ok (.aload_n 0, 1) := by decide +kernel
theorem dX7_lift_126 : decode cX7_lift 126 = .ok (.getfield 7, 3) := by decide +kernel
theorem dX7_lift_129 : decode cX7_lift 129 = .ok (.bipush 9, 2) := by decide +kernel
theorem dX7_lift_131 : decode cX7_lift 131 = .ok (.dup2, 1) := by decide +kernel
theorem dX7_lift_132 : decode cX7_lift 132 = .ok (.iaload, 1) := by decide +kernel
theorem dX7_lift_133 : decode cX7_lift 133 = .ok (.iload 4, 2) := by decide +kernel
theorem dX7_lift_135 : decode cX7_lift 135 = .ok (.ifCond .eq 7, 3) := by decide +kernel
theorem dX7_lift_138 : decode cX7_lift 138 = .ok (.iconst 0, 1) := by decide +kernel
theorem dX7_lift_139 : decode cX7_lift 139 = .ok (.goto 9, 3) := by decide +kernel
theorem dX7_lift_142 : decode cX7_lift 142 = .ok (.aload_n 0, 1) := by decide +kernel
theorem dX7_lift_143 : decode cX7_lift 143 = .ok (.getfield 7, 3) := by decide +kernel
theorem dX7_lift_146 : decode cX7_lift 146 = .ok (.iconst 2, 1) := by decide +kernel
theorem dX7_lift_147 : decode cX7_lift 147 = .ok (.iaload, 1) := by decide +kernel
theorem dX7_lift_148 : decode cX7_lift 148 = .ok (.iadd, 1) := by decide +kernel
theorem dX7_lift_149 : decode cX7_lift 149 = .ok (.iastore, 1) := by decide +kernel
theorem dX7_lift_150 : decode cX7_lift 150 = .ok (.aload_n 0, 1) := by decide +kernel
theorem dX7_lift_151 : decode cX7_lift 151 = .ok (.getfield 7, 3) := by decide +kernel
theorem dX7_lift_154 : decode cX7_lift 154 = .ok (.sipush 164, 3) := by decide +kernel
theorem dX7_lift_157 : decode cX7_lift 157 = .ok (.iload_n 3, 1) := by decide +kernel
theorem dX7_lift_158 : decode cX7_lift 158 = .ok (.iadd, 1) := by decide +kernel
theorem dX7_lift_159 : decode cX7_lift 159 = .ok (.iconst (-1), 1) := by decide +kernel
theorem dX7_lift_160 : decode cX7_lift 160 = .ok (.iastore, 1) := by decide +kernel
theorem dX7_lift_161 : decode cX7_lift 161 = .ok (.iload 4, 2) := by decide +kernel
theorem dX7_lift_163 : decode cX7_lift 163 = .ok (.ifCond .eq 7, 3) := by decide +kernel
theorem dX7_lift_166 : decode cX7_lift 166 = .ok (.iconst 1, 1) := by decide +kernel
theorem dX7_lift_167 : decode cX7_lift 167 = .ok (.goto 4, 3) := by decide +kernel
theorem dX7_lift_170 : decode cX7_lift 170 = .ok (.iconst 0, 1) := by decide +kernel
theorem dX7_lift_171 : decode cX7_lift 171 = .ok (.ireturn, 1) := by decide +kernel
theorem dX7_nearest_0 : decode cX7_nearest 0 = .ok (.aload_n 0, 1) := by decide +kernel
theorem dX7_nearest_1 : decode cX7_nearest 1 = .ok (.iload_n 1, 1) := by decide +kernel
theorem dX7_nearest_2 : decode cX7_nearest 2 = .ok (.iload_n 2, 1) := by decide +kernel
theorem dX7_nearest_3 : decode cX7_nearest 3 = .ok (.invokevirtual 68, 3) := by decide +kernel
theorem dX7_nearest_6 : decode cX7_nearest 6 = .ok (.ifCond .ne 5, 3) := by decide +kernel
theorem dX7_nearest_9 : decode cX7_nearest 9 = .ok (.iconst (-1), 1) := by decide +kernel
theorem dX7_nearest_10 : decode cX7_nearest 10 = .ok (.ireturn, 1) := by decide +kernel
theorem dX7_nearest_11 : decode cX7_nearest 11 = .ok (.iload_n 1, 1) := by decide +kernel
theorem dX7_nearest_12 : decode cX7_nearest 12 = .ok (.iload_n 2, 1) := by decide +kernel
theorem dX7_nearest_13 : decode cX7_nearest 13 = .ok (.aload_n 0, 1) := by decide +kernel
theorem dX7_nearest_14 : decode cX7_nearest 14 = .ok (.getfield 7, 3) := by decide +kernel
theorem dX7_nearest_17 : decode cX7_nearest 17 = .ok (.iconst 0, 1) := by decide +kernel
theorem dX7_nearest_18 : decode cX7_nearest 18 = .ok (.iaload, 1) := by decide +kernel
theorem dX7_nearest_19 : decode cX7_nearest 19 = .ok (.imul, 1) := by decide +kernel
theorem dX7_nearest_20 : decode cX7_nearest 20 = .ok (.iadd, 1) := by decide +kernel
theorem dX7_nearest_21 : decode cX7_nearest 21 = .ok (.istore_n 3, 1) := by decide +kernel
theorem dX7_nearest_22 : decode cX7_nearest 22 = .ok (.aload_n 0, 1) := by decide +kernel
theorem dX7_nearest_23 : decode cX7_nearest 23 = .ok (.getfield 7, 3) := by decide +kernel
theorem dX7_nearest_26 : decode cX7_nearest 26 = .ok (.sipush 164, 3) := by decide +kernel
theorem dX7_nearest_29 : decode cX7_nearest 29 = .ok (.iload_n 3, 1) := by decide +kernel
theorem dX7_nearest_30 : decode cX7_nearest 30 = .ok (.iadd, 1) := by decide +kernel
theorem dX7_nearest_31 : decode cX7_nearest 31 = .ok (.iaload, 1) := by decide +kernel
theorem dX7_nearest_32 : decode cX7_nearest 32 = .ok (.iconst (-1), 1) := by decide +kernel
theorem dX7_nearest_33 : decode cX7_nearest 33 = .ok (.if_icmp .ne 15, 3) := by decide +kernel
theorem dX7_nearest_36 : decode cX7_nearest 36 = .ok (.aload_n 0, 1) := by decide +kernel
theorem dX7_nearest_37 : decode cX7_nearest 37 = .ok (.aload_n 0, 1) := by decide +kernel
theorem dX7_nearest_38 : decode cX7_nearest 38 = .ok (.iload_n 3, 1) := by decide +kernel
theorem dX7_nearest_39 : decode cX7_nearest 39 = .ok (.invokevirtual 72, 3) := by decide +kernel
theorem dX7_nearest_42 : decode cX7_nearest 42 = .ok (.invokevirtual 132, 3) := by decide +kernel
theorem dX7_nearest_45 : decode cX7_nearest 45 = .ok (.goto 4, 3) := by decide +kernel
theorem dX7_nearest_48 : decode cX7_nearest 48 = .ok (.iconst (-1), 1) := by decide +kernel
theorem dX7_nearest_49 : decode cX7_nearest 49 = .ok (.istore 4, 2) := by decide +kernel
theorem dX7_nearest_51 : decode cX7_nearest 51 = .ok (.iload 4, 2) := by decide +kernel
theorem dX7_nearest_53 : decode cX7_nearest 53 = .ok (.iconst (-1), 1) := by decide +kernel
theorem dX7_nearest_54 : decode cX7_nearest 54 = .ok (.if_icmp .ne 8, 3) := by decide +kernel
theorem dX7_nearest_57 : decode cX7_nearest 57 = .ok (.bipush (-4), 2) := by decide +kernel
theorem dX7_nearest_59 : decode cX7_nearest 59 = .ok (.goto 5, 3) := by decide +kernel
theorem dX7_nearest_62 : decode cX7_nearest 62 = .ok (.iload 4, 2) := by decide +kernel
theorem dX7_nearest_64 : decode cX7_nearest 64 = .ok (.ireturn, 1) := by decide +kernel
theorem dX7_readyOf_0 : decode cX7_readyOf 0 = .ok (.aload_n 0, 1) := by decide +kernel
theorem dX7_readyOf_1 : decode cX7_readyOf 1 = .ok (.getfield 7, 3) := by decide +kernel
theorem dX7_readyOf_4 : decode cX7_readyOf 4 = .ok (.sipush 308, 3) := by decide +kernel
theorem dX7_readyOf_7 : decode cX7_readyOf 7 = .ok (.iload_n 1, 1) := by decide +kernel
theorem dX7_readyOf_8 : decode cX7_readyOf 8 = .ok (.iadd, 1) := by decide +kernel
theorem dX7_readyOf_9 : decode cX7_readyOf 9 = .ok (.iaload, 1) := by decide +kernel
theorem dX7_readyOf_10 : decode cX7_readyOf 10 = .ok (.istore_n 2, 1) := by decide +kernel
theorem dX7_readyOf_11 : decode cX7_readyOf 11 = .ok (.iconst 0, 1) := by decide +kernel
theorem dX7_readyOf_12 : decode cX7_readyOf 12 = .ok (.istore_n 3, 1) := by decide +kernel
theorem dX7_readyOf_13 : decode cX7_readyOf 13 = .ok (.iload_n 3, 1) := by decide +kernel
theorem dX7_readyOf_14 : decode cX7_readyOf 14 = .ok (.aload_n 0, 1) := by decide +kernel
theorem dX7_readyOf_15 : decode cX7_readyOf 15 = .ok (.getfield 7, 3) := by decide +kernel
theorem dX7_readyOf_18 : decode cX7_readyOf 18 = .ok (.bipush 6, 2) := by decide +kernel
theorem dX7_readyOf_20 : decode cX7_readyOf 20 = .ok (.iaload, 1) := by decide +kernel
theorem dX7_readyOf_21 : decode cX7_readyOf 21 = .ok (.if_icmp .ge 32, 3) := by decide +kernel
theorem dX7_readyOf_24 : decode cX7_readyOf 24 = .ok (.iload_n 2, 1) := by decide +kernel
theorem dX7_readyOf_25 : decode cX7_readyOf 25 = .ok (.aload_n 0, 1) := by decide +kernel
theorem dX7_readyOf_26 : decode cX7_readyOf 26 = .ok (.iload_n 3, 1) := by decide +kernel
theorem dX7_readyOf_27 : decode cX7_readyOf 27 = .ok (.iconst 1, 1) := by decide +kernel
theorem dX7_readyOf_28 : decode cX7_readyOf 28 = .ok (.invokevirtual 85, 3) := by decide +kernel
theorem dX7_readyOf_31 : decode cX7_readyOf 31 = .ok (.iload_n 1, 1) := by decide +kernel
theorem dX7_readyOf_32 : decode cX7_readyOf 32 = .ok (.if_icmp .ne 12, 3) := by decide +kernel
theorem dX7_readyOf_35 : decode cX7_readyOf 35 = .ok (.aload_n 0, 1) := by decide +kernel
theorem dX7_readyOf_36 : decode cX7_readyOf 36 = .ok (.iload_n 3, 1) := by decide +kernel
theorem dX7_readyOf_37 : decode cX7_readyOf 37 = .ok (.iconst 1, 1) := by decide +kernel
theorem dX7_readyOf_38 : decode cX7_readyOf 38 = .ok (.invokevirtual 122, 3) := by decide +kernel
theorem dX7_readyOf_41 : decode cX7_readyOf 41 = .ok (.goto 4, 3) := by decide +kernel
theorem dX7_readyOf_44 : decode cX7_readyOf 44 = .ok (.iconst 0, 1) := by decide +kernel
theorem dX7_readyOf_45 : decode cX7_readyOf 45 = .ok (.iadd, 1) := by decide +kernel
theorem dX7_readyOf_46 : decode cX7_readyOf 46 = .ok (.istore_n 2, 1) := by decide +kernel
theorem dX7_readyOf_47 : decode cX7_readyOf 47 = .ok (.iinc 3 1, 3) := by decide +kernel
theorem dX7_readyOf_50 : decode cX7_readyOf 50 = .ok (.goto (-37), 3) := by decide +kernel
theorem dX7_readyOf_53 : decode cX7_readyOf 53 = .ok (.iload_n 2, 1) := by decide +kernel
theorem dX7_readyOf_54 : decode cX7_readyOf 54 = .ok (.ireturn, 1) := by decide +kernel
theorem dX7_ready_0 : decode cX7_ready 0 = .ok (.iload_n 1, 1) := by decide +kernel
theorem dX7_ready_1 : decode cX7_ready 1 = .ok (.iconst 0, 1) := by decide +kernel
theorem dX7_ready_2 : decode cX7_ready 2 = .ok (.bipush 99, 2) := by decide +kernel
theorem dX7_ready_4 : decode cX7_ready 4 = .ok (.invokestatic 37, 3) := by decide +kernel
theorem dX7_ready_7 : decode cX7_ready 7 = .ok (.ifCond .eq 11, 3) := by decide +kernel
theorem dX7_ready_10 : decode cX7_ready 10 = .ok (.aload_n 0, 1) := by decide +kernel
theorem dX7_ready_11 : decode cX7_ready 11 = .ok (.iload_n 1, 1) := by decide +kernel
theorem dX7_ready_12 : decode cX7_ready 12 = .ok (.invokevirtual 144, 3) := by decide +kernel
theorem dX7_ready_15 : decode cX7_ready 15 = .ok (.goto 4, 3) := by decide +kernel
theorem dX7_ready_18 : decode cX7_ready 18 = .ok (.iconst (-1), 1) := by decide +kernel
theorem dX7_ready_19 : decode cX7_ready 19 = .ok (.ireturn, 1) := by decide +kernel
theorem dX7_lacksOf_0 : decode cX7_lacksOf 0 = .ok (.iconst 0, 1) := by decide +kernel
theorem dX7_lacksOf_1 : decode cX7_lacksOf 1 = .ok (.istore_n 2, 1) := by decide +kernel
theorem dX7_lacksOf_2 : decode cX7_lacksOf 2 = .ok (.iconst 0, 1) := by decide +kernel
theorem dX7_lacksOf_3 : decode cX7_lacksOf 3 = .ok (.istore_n 3, 1) := by decide +kernel
theorem dX7_lacksOf_4 : decode cX7_lacksOf 4 = .ok (.iload_n 3, 1) := by decide +kernel
theorem dX7_lacksOf_5 : decode cX7_lacksOf 5 = .ok (.aload_n 0, 1) := by decide +kernel
theorem dX7_lacksOf_6 : decode cX7_lacksOf 6 = .ok (.invokevirtual 41, 3) := by decide +kernel
theorem dX7_lacksOf_9 : decode cX7_lacksOf 9 = .ok (.if_icmp .ge 40, 3) := by decide +kernel
theorem dX7_lacksOf_12 : decode cX7_lacksOf 12 = .ok (.iload_n 2, 1) := by decide +kernel
theorem dX7_lacksOf_13 : decode cX7_lacksOf 13 = .ok (.aload_n 0, 1) := by decide +kernel
theorem dX7_lacksOf_14 : decode cX7_lacksOf 14 = .ok (.getfield 7, 3) := by decide +kernel
theorem dX7_lacksOf_17 : decode cX7_lacksOf 17 = .ok (.sipush 164, 3) := by decide +kernel
theorem dX7_lacksOf_20 : decode cX7_lacksOf 20 = .ok (.iload_n 3, 1) := by decide +kernel
theorem dX7_lacksOf_21 : decode cX7_lacksOf 21 = .ok (.iadd, 1) := by decide +kernel
theorem dX7_lacksOf_22 : decode cX7_lacksOf 22 = .ok (.iaload, 1) := by decide +kernel
theorem dX7_lacksOf_23 : decode cX7_lacksOf 23 = .ok (.iconst (-1), 1) := by decide +kernel
theorem dX7_lacksOf_24 : decode cX7_lacksOf 24 = .ok (.if_icmp .ne 16, 3) := by decide +kernel
theorem dX7_lacksOf_27 : decode cX7_lacksOf 27 = .ok (.aload_n 0, 1) := by decide +kernel
theorem dX7_lacksOf_28 : decode cX7_lacksOf 28 = .ok (.iload_n 3, 1) := by decide +kernel
theorem dX7_lacksOf_29 : decode cX7_lacksOf 29 = .ok (.invokevirtual 72, 3) := by decide +kernel
theorem dX7_lacksOf_32 : decode cX7_lacksOf 32 = .ok (.iload_n 1, 1) := by decide +kernel
theorem dX7_lacksOf_33 : decode cX7_lacksOf 33 = .ok (.if_icmp .ne 7, 3) := by decide +kernel
theorem dX7_lacksOf_36 : decode cX7_lacksOf 36 = .ok (.iconst 1, 1) := by decide +kernel
theorem dX7_lacksOf_37 : decode cX7_lacksOf 37 = .ok (.goto 4, 3) := by decide +kernel
theorem dX7_lacksOf_40 : decode cX7_lacksOf 40 = .ok (.iconst 0, 1) := by decide +kernel
theorem dX7_lacksOf_41 : decode cX7_lacksOf 41 = .ok (.iadd, 1) := by decide +kernel
theorem dX7_lacksOf_42 : decode cX7_lacksOf 42 = .ok (.istore_n 2, 1) := by decide +kernel
theorem dX7_lacksOf_43 : decode cX7_lacksOf 43 = .ok (.iinc 3 1, 3) := by decide +kernel
theorem dX7_lacksOf_46 : decode cX7_lacksOf 46 = .ok (.goto (-42), 3) := by decide +kernel
theorem dX7_lacksOf_49 : decode cX7_lacksOf 49 = .ok (.iload_n 2, 1) := by decide +kernel
theorem dX7_lacksOf_50 : decode cX7_lacksOf 50 = .ok (.aload_n 0, 1) := by decide +kernel
theorem dX7_lacksOf_51 : decode cX7_lacksOf 51 = .ok (.iload_n 1, 1) := by decide +kernel
theorem dX7_lacksOf_52 : decode cX7_lacksOf 52 = .ok (.invokevirtual 144, 3) := by decide +kernel
theorem dX7_lacksOf_55 : decode cX7_lacksOf 55 = .ok (.isub, 1) := by decide +kernel
theorem dX7_lacksOf_56 : decode cX7_lacksOf 56 = .ok (.istore_n 2, 1) := by decide +kernel
theorem dX7_lacksOf_57 : decode cX7_lacksOf 57 = .ok (.iload_n 2, 1) := by decide +kernel
theorem dX7_lacksOf_58 : decode cX7_lacksOf 58 = .ok (.ifCond .ge 7, 3) := by decide +kernel
theorem dX7_lacksOf_61 : decode cX7_lacksOf 61 = .ok (.iconst 0, 1) := by decide +kernel
theorem dX7_lacksOf_62 : decode cX7_lacksOf 62 = .ok (.goto 4, 3) := by decide +kernel
theorem dX7_lacksOf_65 : decode cX7_lacksOf 65 = .ok (.iload_n 2, 1) := by decide +kernel
theorem dX7_lacksOf_66 : decode cX7_lacksOf 66 = .ok (.ireturn, 1) := by decide +kernel
theorem dX7_lacks_0 : decode cX7_lacks 0 = .ok (.iload_n 1, 1) := by decide +kernel
theorem dX7_lacks_1 : decode cX7_lacks 1 = .ok (.iconst 0, 1) := by decide +kernel
theorem dX7_lacks_2 : decode cX7_lacks 2 = .ok (.bipush 99, 2) := by decide +kernel
theorem dX7_lacks_4 : decode cX7_lacks 4 = .ok (.invokestatic 37, 3) := by decide +kernel
theorem dX7_lacks_7 : decode cX7_lacks 7 = .ok (.ifCond .eq 11, 3) := by decide +kernel
theorem dX7_lacks_10 : decode cX7_lacks 10 = .ok (.aload_n 0, 1) := by decide +kernel
theorem dX7_lacks_11 : decode cX7_lacks 11 = .ok (.iload_n 1, 1) := by decide +kernel
theorem dX7_lacks_12 : decode cX7_lacks 12 = .ok (.invokevirtual 147, 3) := by decide +kernel
theorem dX7_lacks_15 : decode cX7_lacks 15 = .ok (.goto 4, 3) := by decide +kernel
theorem dX7_lacks_18 : decode cX7_lacks 18 = .ok (.iconst (-1), 1) := by decide +kernel
theorem dX7_lacks_19 : decode cX7_lacks 19 = .ok (.ireturn, 1) := by decide +kernel
theorem dX7_stripFor_0 : decode cX7_stripFor 0 = .ok (.iload_n 1, 1) := by decide +kernel
theorem dX7_stripFor_1 : decode cX7_stripFor 1 = .ok (.iconst 0, 1) := by decide +kernel
theorem dX7_stripFor_2 : decode cX7_stripFor 2 = .ok (.bipush 99, 2) := by decide +kernel
theorem dX7_stripFor_4 : decode cX7_stripFor 4 = .ok (.invokestatic 37, 3) := by decide +kernel
theorem dX7_stripFor_7 : decode cX7_stripFor 7 = .ok (.ifCond .ne 5, 3) := by decide +kernel
theorem dX7_stripFor_10 : decode cX7_stripFor 10 = .ok (.iconst (-1), 1) := by decide +kernel
theorem dX7_stripFor_11 : decode cX7_stripFor 11 = .ok (.ireturn, 1) := by decide +kernel
theorem dX7_stripFor_12 : decode cX7_stripFor 12 = .ok (.aload_n 0, 1) := by decide +kernel
theorem dX7_stripFor_13 : decode cX7_stripFor 13 = .ok (.iload_n 1, 1) := by decide +kernel
theorem dX7_stripFor_14 : decode cX7_stripFor 14 = .ok (.invokevirtual 147, 3) := by decide +kernel
theorem dX7_stripFor_17 : decode cX7_stripFor 17 = .ok (.istore_n 2, 1) := by decide +kernel
theorem dX7_stripFor_18 : decode cX7_stripFor 18 = .ok (.iload_n 2, 1) := by decide +kernel
theorem dX7_stripFor_19 : decode cX7_stripFor 19 = .ok (.aload_n 0, 1) := by decide +kernel
theorem dX7_stripFor_20 : decode cX7_stripFor 20 = .ok (.getfield 7, 3) := by decide +kernel
theorem dX7_stripFor_23 : decode cX7_stripFor 23 = .ok (.iconst 2, 1) := by decide +kernel
theorem dX7_stripFor_24 : decode cX7_stripFor 24 = .ok (.iaload, 1) := by decide +kernel
theorem dX7_stripFor_25 : decode cX7_stripFor 25 = .ok (.imul, 1) := by decide +kernel
theorem dX7_stripFor_26 : decode cX7_stripFor 26 = .ok (.iload_n 2, 1) := by decide +kernel
theorem dX7_stripFor_27 : decode cX7_stripFor 27 = .ok (.iconst 1, 1) := by decide +kernel
theorem dX7_stripFor_28 : decode cX7_stripFor 28 = .ok (.isub, 1) := by decide +kernel
theorem dX7_stripFor_29 : decode cX7_stripFor 29 = .ok (.aload_n 0, 1) := by decide +kernel
theorem dX7_stripFor_30 : decode cX7_stripFor 30 = .ok (.getfield 7, 3) := by decide +kernel
theorem dX7_stripFor_33 : decode cX7_stripFor 33 = .ok (.iconst 3, 1) := by decide +kernel
theorem dX7_stripFor_34 : decode cX7_stripFor 34 = .ok (.iaload, 1) := by decide +kernel
theorem dX7_stripFor_35 : decode cX7_stripFor 35 = .ok (.imul, 1) := by decide +kernel
theorem dX7_stripFor_36 : decode cX7_stripFor 36 = .ok (.iadd, 1) := by decide +kernel
theorem dX7_stripFor_37 : decode cX7_stripFor 37 = .ok (.istore_n 3, 1) := by decide +kernel
theorem dX7_stripFor_38 : decode cX7_stripFor 38 = .ok (.iload_n 2, 1) := by decide +kernel
theorem dX7_stripFor_39 : decode cX7_stripFor 39 = .ok (.ifCond .ne 7, 3) := by decide +kernel
theorem dX7_stripFor_42 : decode cX7_stripFor 42 = .ok (.iconst 0, 1) := by decide +kernel
theorem dX7_stripFor_43 : decode cX7_stripFor 43 = .ok (.goto 27, 3) := by decide +kernel
theorem dX7_stripFor_46 : decode cX7_stripFor 46 = .ok (.iload_n 3, 1) := by decide +kernel
theorem dX7_stripFor_47 : decode cX7_stripFor 47 = .ok (.sipush 1000, 3) := by decide +kernel
theorem dX7_stripFor_50 : decode cX7_stripFor 50 = .ok (.if_icmp .le 8, 3) := by decide +kernel
theorem dX7_stripFor_53 : decode cX7_stripFor 53 = .ok (.bipush (-4), 2) := by decide +kernel
theorem dX7_stripFor_55 : decode cX7_stripFor 55 = .ok (.goto 15, 3) := by decide +kernel
theorem dX7_stripFor_58 : decode cX7_stripFor 58 = .ok (.iload_n 3, 1) := by decide +kernel
theorem dX7_stripFor_59 : decode cX7_stripFor 59 = .ok (.bipush 20, 2) := by decide +kernel
theorem dX7_stripFor_61 : decode cX7_stripFor 61 = .ok (.if_icmp .ge 8, 3) := by decide +kernel
theorem dX7_stripFor_64 : decode cX7_stripFor 64 = .ok (.bipush 20, 2) := by decide +kernel
theorem dX7_stripFor_66 : decode cX7_stripFor 66 = .ok (.goto 4, 3) := by decide +kernel
theorem dX7_stripFor_69 : decode cX7_stripFor 69 = .ok (.iload_n 3, 1) := by decide +kernel
theorem dX7_stripFor_70 : decode cX7_stripFor 70 = .ok (.ireturn, 1) := by decide +kernel
theorem dX7_ifLaid_0 : decode cX7_ifLaid 0 = .ok (.aload_n 0, 1) := by decide +kernel
theorem dX7_ifLaid_1 : decode cX7_ifLaid 1 = .ok (.getfield 7, 3) := by decide +kernel
theorem dX7_ifLaid_4 : decode cX7_ifLaid 4 = .ok (.iconst 0, 1) := by decide +kernel
theorem dX7_ifLaid_5 : decode cX7_ifLaid 5 = .ok (.aload_n 0, 1) := by decide +kernel
theorem dX7_ifLaid_6 : decode cX7_ifLaid 6 = .ok (.getfield 13, 3) := by decide +kernel
theorem dX7_ifLaid_9 : decode cX7_ifLaid 9 = .ok (.iconst 0, 1) := by decide +kernel
theorem dX7_ifLaid_10 : decode cX7_ifLaid 10 = .ok (.invokestatic 33, 3) := by decide +kernel
theorem dX7_ifLaid_13 : decode cX7_ifLaid 13 = .ok (.aload_n 0, 1) := by decide +kernel
theorem dX7_ifLaid_14 : decode cX7_ifLaid 14 = .ok (.invokevirtual 141, 3) := by decide +kernel
theorem dX7_ifLaid_17 : decode cX7_ifLaid 17 = .ok (.istore_n 1, 1) := by decide +kernel
theorem dX7_ifLaid_18 : decode cX7_ifLaid 18 = .ok (.aload_n 0, 1) := by decide +kernel
theorem dX7_ifLaid_19 : decode cX7_ifLaid 19 = .ok (.iconst 0, 1) := by decide +kernel
theorem dX7_ifLaid_20 : decode cX7_ifLaid 20 = .ok (.invokevirtual 95, 3) := by decide +kernel
theorem dX7_ifLaid_23 : decode cX7_ifLaid 23 = .ok (.istore_n 2, 1) := by decide +kernel
theorem dX7_ifLaid_24 : decode cX7_ifLaid 24 = .ok (.aload_n 0, 1) := by decide +kernel
theorem dX7_ifLaid_25 : decode cX7_ifLaid 25 = .ok (.getfield 13, 3) := by decide +kernel
theorem dX7_ifLaid_28 : decode cX7_ifLaid 28 = .ok (.iconst 0, 1) := by decide +kernel
theorem dX7_ifLaid_29 : decode cX7_ifLaid 29 = .ok (.aload_n 0, 1) := by decide +kernel
theorem dX7_ifLaid_30 : decode cX7_ifLaid 30 = .ok (.getfield 7, 3) := by decide +kernel
theorem dX7_ifLaid_33 : decode cX7_ifLaid 33 = .ok (.iconst 0, 1) := by decide +kernel
theorem dX7_ifLaid_34 : decode cX7_ifLaid 34 = .ok (.invokestatic 33, 3) := by decide +kernel
theorem dX7_ifLaid_37 : decode cX7_ifLaid 37 = .ok (.iload_n 2, 1) := by decide +kernel
theorem dX7_ifLaid_38 : decode cX7_ifLaid 38 = .ok (.ireturn, 1) := by decide +kernel
theorem dX7_type_0 : decode cX7_type 0 = .ok (.iload_n 1, 1) := by decide +kernel
theorem dX7_type_1 : decode cX7_type 1 = .ok (.bipush 32, 2) := by decide +kernel
theorem dX7_type_3 : decode cX7_type 3 = .ok (.bipush 126, 2) := by decide +kernel
theorem dX7_type_5 : decode cX7_type 5 = .ok (.invokestatic 37, 3) := by decide +kernel
theorem dX7_type_8 : decode cX7_type 8 = .ok (.ifCond .ne 5, 3) := by decide +kernel
theorem dX7_type_11 : decode cX7_type 11 = .ok (.iconst (-1), 1) := by decide +kernel
theorem dX7_type_12 : decode cX7_type 12 = .ok (.ireturn, 1) := by decide +kernel
theorem dX7_type_13 : decode cX7_type 13 = .ok (.aload_n 0, 1) := by decide +kernel
theorem dX7_type_14 : decode cX7_type 14 = .ok (.getfield 99, 3) := by decide +kernel
theorem dX7_type_17 : decode cX7_type 17 = .ok (.bipush 80, 2) := by decide +kernel
theorem dX7_type_19 : decode cX7_type 19 = .ok (.if_icmp .ne 6, 3) := by decide +kernel
theorem dX7_type_22 : decode cX7_type 22 = .ok (.bipush (-3), 2) := by decide +kernel
theorem dX7_type_24 : decode cX7_type 24 = .ok (.ireturn, 1) := by decide +kernel
theorem dX7_type_25 : decode cX7_type 25 = .ok (.aload_n 0, 1) := by decide +kernel
theorem dX7_type_26 : decode cX7_type 26 = .ok (.getfield 19, 3) := by decide +kernel
theorem dX7_type_29 : decode cX7_type 29 = .ok (.aload_n 0, 1) := by decide +kernel
theorem dX7_type_30 : decode cX7_type 30 = .ok (.getfield 99, 3) := by decide +kernel
theorem dX7_type_33 : decode cX7_type 33 = .ok (.iload_n 1, 1) := by decide +kernel
theorem dX7_type_34 : decode cX7_type 34 = .ok (.iastore, 1) := by decide +kernel
theorem dX7_type_35 : decode cX7_type 35 = .ok (.aload_n 0, 1) := by decide +kernel
theorem dX7_type_36 : decode cX7_type 36 = .ok (.dup, 1) := by decide +kernel
theorem dX7_type_37 : decode cX7_type 37 = .ok (.getfield 99, 3) := by decide +kernel
theorem dX7_type_40 : decode cX7_type 40 = .ok (.iconst 1, 1) := by decide +kernel
theorem dX7_type_41 : decode cX7_type 41 = .ok (.iadd, 1) := by decide +kernel
theorem dX7_type_42 : decode cX7_type 42 = .ok (.putfield 99, 3) := by decide +kernel
theorem dX7_type_45 : decode cX7_type 45 = .ok (.aload_n 0, 1) := by decide +kernel
theorem dX7_type_46 : decode cX7_type 46 = .ok (.getfield 99, 3) := by decide +kernel
theorem dX7_type_49 : decode cX7_type 49 = .ok (.ireturn, 1) := by decide +kernel
theorem dX7_clearText_0 : decode cX7_clearText 0 = .ok (.aload_n 0, 1) := by decide +kernel
theorem dX7_clearText_1 : decode cX7_clearText 1 = .ok (.getfield 99, 3) := by decide +kernel
theorem dX7_clearText_4 : decode cX7_clearText 4 = .ok (.istore_n 1, 1) := by decide +kernel
theorem dX7_clearText_5 : decode cX7_clearText 5 = .ok (.aload_n 0, 1) := by decide +kernel
theorem dX7_clearText_6 : decode cX7_clearText 6 = .ok (.iconst 0, 1) := by decide +kernel
theorem dX7_clearText_7 : decode cX7_clearText 7 = .ok (.putfield 99, 3) := by decide +kernel
theorem dX7_clearText_10 : decode cX7_clearText 10 = .ok (.iload_n 1, 1) := by decide +kernel
theorem dX7_clearText_11 : decode cX7_clearText 11 = .ok (.ireturn, 1) := by decide +kernel
theorem dX7_faultNow_0 : decode cX7_faultNow 0 = .ok (.aload_n 0, 1) := by decide +kernel
theorem dX7_faultNow_1 : decode cX7_faultNow 1 = .ok (.iconst 0, 1) := by decide +kernel
theorem dX7_faultNow_2 : decode cX7_faultNow 2 = .ok (.putfield 150, 3) := by decide +kernel
theorem dX7_faultNow_5 : decode cX7_faultNow 5 = .ok (.iconst 0, 1) := by decide +kernel
theorem dX7_faultNow_6 : decode cX7_faultNow 6 = .ok (.istore_n 1, 1) := by decide +kernel
theorem dX7_faultNow_7 : decode cX7_faultNow 7 = .ok (.iconst 0, 1) := by decide +kernel
theorem dX7_faultNow_8 : decode cX7_faultNow 8 = .ok (.istore_n 2, 1) := by decide +kernel
theorem dX7_faultNow_9 : decode cX7_faultNow 9 = .ok (.iload_n 2, 1) := by decide +kernel
theorem dX7_faultNow_10 : decode cX7_faultNow 10 = .ok (.aload_n 0, 1) := by decide +kernel
theorem dX7_faultNow_11 : decode cX7_faultNow 11 = .ok (.getfield 99, 3) := by decide +kernel
theorem dX7_faultNow_14 : decode cX7_faultNow 14 = .ok (.if_icmp .ge 155, 3) := by decide +kernel
theorem dX7_faultNow_17 : decode cX7_faultNow 17 = .ok (.aload_n 0, 1) := by decide +kernel
theorem dX7_faultNow_18 : decode cX7_faultNow 18 = .ok (.getfield 19, 3) := by decide +kernel
theorem dX7_faultNow_21 : decode cX7_faultNow 21 = .ok (.iload_n 2, 1) := by decide +kernel
theorem dX7_faultNow_22 : decode cX7_faultNow 22 = .ok (.iaload, 1) := by decide +kernel
theorem dX7_faultNow_23 : decode cX7_faultNow 23 = .ok (.bipush 48, 2) := by decide +kernel
theorem dX7_faultNow_25 : decode cX7_faultNow 25 = .ok (.bipush 57, 2) := by decide +kernel
theorem dX7_faultNow_27 : decode cX7_faultNow 27 = .ok (.invokestatic 37, 3) := by decide +kernel
theorem dX7_faultNow_30 : decode cX7_faultNow 30 = .ok (.istore_n 3, 1) := by decide +kernel
theorem dX7_faultNow_31 : decode cX7_faultNow 31 = .ok (.iload_n 3, 1) := by decide +kernel
theorem dX7_faultNow_32 : decode cX7_faultNow 32 = .ok (.ifCond .eq 16, 3) := by decide +kernel
theorem dX7_faultNow_35 : decode cX7_faultNow 35 = .ok (.iload_n 1, 1) := by decide +kernel
theorem dX7_faultNow_36 : decode cX7_faultNow 36 = .ok (.iconst 2, 1) := by decide +kernel
theorem dX7_faultNow_37 : decode cX7_faultNow 37 = .ok (.if_icmp .ge 7, 3) := by decide +kernel
theorem dX7_faultNow_40 : decode cX7_faultNow 40 = .ok (.iconst 1, 1) := by decide +kernel
theorem dX7_faultNow_41 : decode cX7_faultNow 41 = .ok (.goto 36, 3) := by decide +kernel
theorem dX7_faultNow_44 : decode cX7_faultNow 44 = .ok (.iconst 0, 1) := by decide +kernel
theorem dX7_faultNow_45 : decode cX7_faultNow 45 = .ok (.goto 32, 3) := by decide +kernel
theorem dX7_faultNow_48 : decode cX7_faultNow 48 = .ok (.aload_n 0, 1) := by decide +kernel
theorem dX7_faultNow_49 : decode cX7_faultNow 49 = .ok (.getfield 19, 3) := by decide +kernel
theorem dX7_faultNow_52 : decode cX7_faultNow 52 = .ok (.iload_n 2, 1) := by decide +kernel
theorem dX7_faultNow_53 : decode cX7_faultNow 53 = .ok (.iaload, 1) := by decide +kernel
theorem dX7_faultNow_54 : decode cX7_faultNow 54 = .ok (.bipush 44, 2) := by decide +kernel
theorem dX7_faultNow_56 : decode cX7_faultNow 56 = .ok (.if_icmp .ne 20, 3) := by decide +kernel
theorem dX7_faultNow_59 : decode cX7_faultNow 59 = .ok (.iload_n 1, 1) := by decide +kernel
theorem dX7_faultNow_60 : decode cX7_faultNow 60 = .ok (.ifCond .le 16, 3) := by decide +kernel
theorem dX7_faultNow_63 : decode cX7_faultNow 63 = .ok (.aload_n 0, 1) := by decide +kernel
theorem dX7_faultNow_64 : decode cX7_faultNow 64 = .ok (.getfield 150, 3) := by decide +kernel
theorem dX7_faultNow_67 : decode cX7_faultNow 67 = .ok (.bipush 8, 2) := by decide +kernel
theorem dX7_faultNow_69 : decode cX7_faultNow 69 = .ok (.if_icmp .ge 7, 3) := by decide +kernel
theorem dX7_faultNow_72 : decode cX7_faultNow 72 = .ok (.iconst 1, 1) := by decide +kernel
theorem dX7_faultNow_73 : decode cX7_faultNow 73 = .ok (.goto 4, 3) := by decide +kernel
theorem dX7_faultNow_76 : decode cX7_faultNow 76 = .ok (.iconst 0, 1) := by decide +kernel
theorem dX7_faultNow_77 : decode cX7_faultNow 77 = .ok (.istore 4, 2) := by decide +kernel
theorem dX7_faultNow_79 : decode cX7_faultNow 79 = .ok (.iload 4, 2) := by decide +kernel
theorem dX7_faultNow_81 : decode cX7_faultNow 81 = .ok (.ifCond .ne 5, 3) := by decide +kernel
theorem dX7_faultNow_84 : decode cX7_faultNow 84 = .ok (.iload_n 2, 1) := by decide +kernel
theorem dX7_faultNow_85 : decode cX7_faultNow 85 = .ok (.ireturn, 1) := by decide +kernel
theorem dX7_faultNow_86 : decode cX7_faultNow 86 = .ok (.iload_n 3, 1) := by decide +kernel
theorem dX7_faultNow_87 : decode cX7_faultNow 87 = .ok (.ifCond .eq 64, 3) := by decide +kernel
theorem dX7_faultNow_90 : decode cX7_faultNow 90 = .ok (.aload_n 0, 1) := by decide +kernel
theorem dX7_faultNow_91 : decode cX7_faultNow 91 = .ok (.dup, 1) := by decide +kernel
theorem dX7_faultNow_92 : decode cX7_faultNow 92 = .ok (.getfield 150, 3) := by decide +kernel
theorem dX7_faultNow_95 : decode cX7_faultNow 95 = .ok (.iload_n 1, 1) := by decide +kernel
theorem dX7_faultNow_96 : decode cX7_faultNow 96 = .ok (.ifCond .ne 7, 3) := by decide +kernel
theorem dX7_faultNow_99 : decode cX7_faultNow 99 = .ok (.iconst 1, 1) := by decide +kernel
theorem dX7_faultNow_100 : decode cX7_faultNow 100 = .ok (.goto 4, 3) := by decide +kernel
theorem dX7_faultNow_103 : decode cX7_faultNow 103 = .ok (.iconst 0, 1) := by decide +kernel
theorem dX7_faultNow_104 : decode cX7_faultNow 104 = .ok (.iadd, 1) := by decide +kernel
theorem dX7_faultNow_105 : decode cX7_faultNow 105 = .ok (.putfield 150, 3) := by decide +kernel
theorem dX7_faultNow_108 : decode cX7_faultNow 108 = .ok (.aload_n 0, 1) := by decide +kernel
theorem dX7_faultNow_109 : decode cX7_faultNow 109 = .ok (.getfield 22, 3) := by decide +kernel
theorem dX7_faultNow_112 : decode cX7_faultNow 112 = .ok (.aload_n 0, 1) := by decide +kernel
theorem dX7_faultNow_113 : decode cX7_faultNow 113 = .ok (.getfield 150, 3) := by decide +kernel
theorem dX7_faultNow_116 : decode cX7_faultNow 116 = .ok (.iconst 1, 1) := by decide +kernel
theorem dX7_faultNow_117 : decode cX7_faultNow 117 = .ok (.isub, 1) := by decide +kernel
theorem dX7_faultNow_118 : decode cX7_faultNow 118 = .ok (.iload_n 1, 1) := by decide +kernel
theorem dX7_faultNow_119 : decode cX7_faultNow 119 = .ok (.ifCond .ne 7, 3) := by decide +kernel
theorem dX7_faultNow_122 : decode cX7_faultNow 122 = .ok (.iconst 0, 1) := by decide +kernel
theorem dX7_faultNow_123 : decode cX7_faultNow 123 = .ok (.goto 17, 3) := by decide +kernel
theorem dX7_faultNow_126 : decode cX7_faultNow 126 = .ok (.bipush 10, 2) := by decide +kernel
theorem dX7_faultNow_128 : decode cX7_faultNow 128 = .ok (.aload_n 0, 1) := by decide +kernel
theorem dX7_faultNow_129 : decode cX7_faultNow 129 = .ok (.getfield 22, 3) := by decide +kernel
theorem dX7_faultNow_132 : decode cX7_faultNow 132 = .ok (.aload_n 0, 1) := by decide +kernel
theorem dX7_faultNow_133 : decode cX7_faultNow 133 = .ok (.getfield 150, 3) := by decide +kernel
theorem dX7_faultNow_136 : decode cX7_faultNow 136 = .ok (.iconst 1, 1) := by decide +kernel
theorem dX7_faultNow_137 : decode cX7_faultNow 137 = .ok (.isub, 1) := by decide +kernel
theorem dX7_faultNow_138 : decode cX7_faultNow 138 = .ok (.iaload, 1) := by decide +kernel
theorem dX7_faultNow_139 : decode cX7_faultNow 139 = .ok (.imul, 1) := by decide +kernel
theorem dX7_faultNow_140 : decode cX7_faultNow 140 = .ok (.aload_n 0, 1) := by decide +kernel
theorem dX7_faultNow_141 : decode cX7_faultNow 141 = .ok (.getfield 19, 3) := by decide +kernel
theorem dX7_faultNow_144 : decode cX7_faultNow 144 = .ok (.iload_n 2, 1) := by decide +kernel
theorem dX7_faultNow_145 : decode cX7_faultNow 145 = .ok (.iaload, 1) := by decide +kernel
theorem dX7_faultNow_146 : decode cX7_faultNow 146 = .ok (.iadd, 1) := by decide +kernel
theorem dX7_faultNow_147 : decode cX7_faultNow 147 = .ok (.bipush 48, 2) := by decide +kernel
theorem dX7_faultNow_149 : decode cX7_faultNow 149 = .ok (.isub, 1) := by decide +kernel
theorem dX7_faultNow_150 : decode cX7_faultNow 150 = .ok (.iastore, 1) := by decide +kernel
theorem dX7_faultNow_151 : decode cX7_faultNow 151 = .ok (.iload_n 3, 1) := by decide +kernel
theorem dX7_faultNow_152 : decode cX7_faultNow 152 = .ok (.ifCond .eq 9, 3) := by decide +kernel
theorem dX7_faultNow_155 : decode cX7_faultNow 155 = .ok (.iload_n 1, 1) := by decide +kernel
theorem dX7_faultNow_156 : decode cX7_faultNow 156 = .ok (.iconst 1, 1) := by decide +kernel
theorem dX7_faultNow_157 : decode cX7_faultNow 157 = .ok (.iadd, 1) := by decide +kernel
theorem dX7_faultNow_158 : decode cX7_faultNow 158 = .ok (.goto 4, 3) := by decide +kernel
theorem dX7_faultNow_161 : decode cX7_faultNow 161 = .ok (.iconst 0, 1) := by decide +kernel
theorem dX7_faultNow_162 : decode cX7_faultNow 162 = .ok (.istore_n 1, 1) := by decide +kernel
theorem dX7_faultNow_163 : decode cX7_faultNow 163 = .ok (.iinc 2 1, 3) := by decide +kernel
theorem dX7_faultNow_166 : decode cX7_faultNow 166 = .ok (.goto (-157), 3) := by decide +kernel
theorem dX7_faultNow_169 : decode cX7_faultNow 169 = .ok (.iload_n 1, 1) := by decide +kernel
theorem dX7_faultNow_170 : decode cX7_faultNow 170 = .ok (.ifCond .ne 10, 3) := by decide +kernel
theorem dX7_faultNow_173 : decode cX7_faultNow 173 = .ok (.aload_n 0, 1) := by decide +kernel
theorem dX7_faultNow_174 : decode cX7_faultNow 174 = .ok (.getfield 99, 3) := by decide +kernel
theorem dX7_faultNow_177 : decode cX7_faultNow 177 = .ok (.goto 4, 3) := by decide +kernel
theorem dX7_faultNow_180 : decode cX7_faultNow 180 = .ok (.iconst (-1), 1) := by decide +kernel
theorem dX7_faultNow_181 : decode cX7_faultNow 181 = .ok (.ireturn, 1) := by decide +kernel
theorem dX7_fault_0 : decode cX7_fault 0 = .ok (.aload_n 0, 1) := by decide +kernel
theorem dX7_fault_1 : decode cX7_fault 1 = .ok (.invokevirtual 153, 3) := by decide +kernel
theorem dX7_fault_4 : decode cX7_fault 4 = .ok (.istore_n 1, 1) := by decide +kernel
theorem dX7_fault_5 : decode cX7_fault 5 = .ok (.iload_n 1, 1) := by decide +kernel
theorem dX7_fault_6 : decode cX7_fault 6 = .ok (.iconst (-1), 1) := by decide +kernel
theorem dX7_fault_7 : decode cX7_fault 7 = .ok (.if_icmp .ne 8, 3) := by decide +kernel
theorem dX7_fault_10 : decode cX7_fault 10 = .ok (.bipush (-4), 2) := by decide +kernel
theorem dX7_fault_12 : decode cX7_fault 12 = .ok (.goto 4, 3) := by decide +kernel
theorem dX7_fault_15 : decode cX7_fault 15 = .ok (.iload_n 1, 1) := by decide +kernel
theorem dX7_fault_16 : decode cX7_fault 16 = .ok (.ireturn, 1) := by decide +kernel
theorem dX7_pattern_0 : decode cX7_pattern 0 = .ok (.aload_n 0, 1) := by decide +kernel
theorem dX7_pattern_1 : decode cX7_pattern 1 = .ok (.invokevirtual 153, 3) := by decide +kernel
theorem dX7_pattern_4 : decode cX7_pattern 4 = .ok (.iconst (-1), 1) := by decide +kernel
theorem dX7_pattern_5 : decode cX7_pattern 5 = .ok (.if_icmp .ne 10, 3) := by decide +kernel
theorem dX7_pattern_8 : decode cX7_pattern 8 = .ok (.aload_n 0, 1) := by decide +kernel
theorem dX7_pattern_9 : decode cX7_pattern 9 = .ok (.invokevirtual 59, 3) := by decide +kernel
theorem dX7_pattern_12 : decode cX7_pattern 12 = .ok (.ifCond .le 6, 3) := by decide +kernel
theorem dX7_pattern_15 : decode cX7_pattern 15 = .ok (.bipush (-2), 2) := by decide +kernel
theorem dX7_pattern_17 : decode cX7_pattern 17 = .ok (.ireturn, 1) := by decide +kernel
theorem dX7_pattern_18 : decode cX7_pattern 18 = .ok (.aload_n 0, 1) := by decide +kernel
theorem dX7_pattern_19 : decode cX7_pattern 19 = .ok (.invokevirtual 62, 3) := by decide +kernel
theorem dX7_pattern_22 : decode cX7_pattern 22 = .ok (.aload_n 0, 1) := by decide +kernel
theorem dX7_pattern_23 : decode cX7_pattern 23 = .ok (.getfield 7, 3) := by decide +kernel
theorem dX7_pattern_26 : decode cX7_pattern 26 = .ok (.iconst 4, 1) := by decide +kernel
theorem dX7_pattern_27 : decode cX7_pattern 27 = .ok (.aload_n 0, 1) := by decide +kernel
theorem dX7_pattern_28 : decode cX7_pattern 28 = .ok (.getfield 150, 3) := by decide +kernel
theorem dX7_pattern_31 : decode cX7_pattern 31 = .ok (.iastore, 1) := by decide +kernel
theorem dX7_pattern_32 : decode cX7_pattern 32 = .ok (.iconst 0, 1) := by decide +kernel
theorem dX7_pattern_33 : decode cX7_pattern 33 = .ok (.istore_n 1, 1) := by decide +kernel
theorem dX7_pattern_34 : decode cX7_pattern 34 = .ok (.iload_n 1, 1) := by decide +kernel
theorem dX7_pattern_35 : decode cX7_pattern 35 = .ok (.bipush 8, 2) := by decide +kernel
theorem dX7_pattern_37 : decode cX7_pattern 37 = .ok (.if_icmp .ge 36, 3) := by decide +kernel
theorem dX7_pattern_40 : decode cX7_pattern 40 = .ok (.aload_n 0, 1) := by decide +kernel
theorem dX7_pattern_41 : decode cX7_pattern 41 = .ok (.getfield 7, 3) := by decide +kernel
theorem dX7_pattern_44 : decode cX7_pattern 44 = .ok (.bipush 12, 2) := by decide +kernel
theorem dX7_pattern_46 : decode cX7_pattern 46 = .ok (.iload_n 1, 1) := by decide +kernel
theorem dX7_pattern_47 : decode cX7_pattern 47 = .ok (.iadd, 1) := by decide +kernel
theorem dX7_pattern_48 : decode cX7_pattern 48 = .ok (.iload_n 1, 1) := by decide +kernel
theorem dX7_pattern_49 : decode cX7_pattern 49 = .ok (.aload_n 0, 1) := by decide +kernel
theorem dX7_pattern_50 : decode cX7_pattern 50 = .ok (.getfield 150, 3) := by decide +kernel
theorem dX7_pattern_53 : decode cX7_pattern 53 = .ok (.if_icmp .ge 12, 3) := by decide +kernel
theorem dX7_pattern_56 : decode cX7_pattern 56 = .ok (.aload_n 0, 1) := by decide +kernel
theorem dX7_pattern_57 : decode cX7_pattern 57 = .ok (.getfield 22, 3) := by decide +kernel
theorem dX7_pattern_60 : decode cX7_pattern 60 = .ok (.iload_n 1, 1) := by decide +kernel
theorem dX7_pattern_61 : decode cX7_pattern 61 = .ok (.iaload, 1) := by decide +kernel
theorem dX7_pattern_62 : decode cX7_pattern 62 = .ok (.goto 4, 3) := by decide +kernel
theorem dX7_pattern_65 : decode cX7_pattern 65 = .ok (.iconst 0, 1) := by decide +kernel
theorem dX7_pattern_66 : decode cX7_pattern 66 = .ok (.iastore, 1) := by decide +kernel
theorem dX7_pattern_67 : decode cX7_pattern 67 = .ok (.iinc 1 1, 3) := by decide +kernel
theorem dX7_pattern_70 : decode cX7_pattern 70 = .ok (.goto (-36), 3) := by decide +kernel
theorem dX7_pattern_73 : decode cX7_pattern 73 = .ok (.aload_n 0, 1) := by decide +kernel
theorem dX7_pattern_74 : decode cX7_pattern 74 = .ok (.getfield 150, 3) := by decide +kernel
theorem dX7_pattern_77 : decode cX7_pattern 77 = .ok (.ireturn, 1) := by decide +kernel
end
section
theorem dL_law_0 : decode cL_law 0 = .ok (.new 7, 3) := by decide +kernel
theorem dL_law_3 : decode cL_law 3 = .ok (.dup, 1) := by decide +kernel
theorem dL_law_4 : decode cL_law 4 = .ok (.invokespecial 9, 3) := by decide +kernel
theorem dL_law_7 : decode cL_law 7 = .ok (.astore_n 1, 1) := by decide +kernel
theorem dL_law_8 : decode cL_law 8 = .ok (.new 10, 3) := by decide +kernel
theorem dL_law_11 : decode cL_law 11 = .ok (.dup, 1) := by decide +kernel
theorem dL_law_12 : decode cL_law 12 = .ok (.invokespecial 12, 3) := by decide +kernel
theorem dL_law_15 : decode cL_law 15 = .ok (.astore_n 2, 1) := by decide +kernel
theorem dL_law_16 : decode cL_law 16 = .ok (.iconst 0, 1) := by decide +kernel
theorem dL_law_17 : decode cL_law 17 = .ok (.istore_n 3, 1) := by decide +kernel
theorem dL_law_18 : decode cL_law 18 = .ok (.iload_n 3, 1) := by decide +kernel
theorem dL_law_19 : decode cL_law 19 = .ok (.aload_n 0, 1) := by decide +kernel
theorem dL_law_20 : decode cL_law 20 = .ok (.arraylength, 1) := by decide +kernel
theorem dL_law_21 : decode cL_law 21 = .ok (.iconst 4, 1) := by decide +kernel
theorem dL_law_22 : decode cL_law 22 = .ok (.isub, 1) := by decide +kernel
theorem dL_law_23 : decode cL_law 23 = .ok (.if_icmp .gt 739, 3) := by decide +kernel
theorem dL_law_26 : decode cL_law 26 = .ok (.aload_n 0, 1) := by decide +kernel
theorem dL_law_27 : decode cL_law 27 = .ok (.iload_n 3, 1) := by decide +kernel
theorem dL_law_28 : decode cL_law 28 = .ok (.iaload, 1) := by decide +kernel
theorem dL_law_29 : decode cL_law 29 = .ok (.bipush 31, 2) := by decide +kernel
theorem dL_law_31 : decode cL_law 31 = .ok (.iand, 1) := by decide +kernel
theorem dL_law_32 : decode cL_law 32 = .ok (.tableswitch 724 0 23 #[112, 145, 178, 191, 214, 257, 300, 323, 346, 359, 392, 425, 448, 481, 514, 527, 560, 593, 616, 639, 662, 675, 698, 711], 112) := by decide +kernel
theorem dL_law_144 : decode cL_law 144 = .ok (.aload_n 1, 1) := by decide +kernel
theorem dL_law_145 : decode cL_law 145 = .ok (.aload_n 0, 1) := by decide +kernel
theorem dL_law_146 : decode cL_law 146 = .ok (.iload_n 3, 1) := by decide +kernel
theorem dL_law_147 : decode cL_law 147 = .ok (.iconst 1, 1) := by decide +kernel
theorem dL_law_148 : decode cL_law 148 = .ok (.iadd, 1) := by decide +kernel
theorem dL_law_149 : decode cL_law 149 = .ok (.iaload, 1) := by decide +kernel
theorem dL_law_150 : decode cL_law 150 = .ok (.aload_n 0, 1) := by decide +kernel
theorem dL_law_151 : decode cL_law 151 = .ok (.iload_n 3, 1) := by decide +kernel
theorem dL_law_152 : decode cL_law 152 = .ok (.iconst 2, 1) := by decide +kernel
theorem dL_law_153 : decode cL_law 153 = .ok (.iadd, 1) := by decide +kernel
theorem dL_law_154 : decode cL_law 154 = .ok (.iaload, 1) := by decide +kernel
theorem dL_law_155 : decode cL_law 155 = .ok (.invokevirtual 13, 3) := by decide +kernel
theorem dL_law_158 : decode cL_law 158 = .ok (.aload_n 2, 1) := by decide +kernel
theorem dL_law_159 : decode cL_law 159 = .ok (.aload_n 0, 1) := by decide +kernel
theorem dL_law_160 : decode cL_law 160 = .ok (.iload_n 3, 1) := by decide +kernel
theorem dL_law_161 : decode cL_law 161 = .ok (.iconst 1, 1) := by decide +kernel
theorem dL_law_162 : decode cL_law 162 = .ok (.iadd, 1) := by decide +kernel
theorem dL_law_163 : decode cL_law 163 = .ok (.iaload, 1) := by decide +kernel
theorem dL_law_164 : decode cL_law 164 = .ok (.aload_n 0, 1) := by decide +kernel
theorem dL_law_165 : decode cL_law 165 = .ok (.iload_n 3, 1) := by decide +kernel
theorem dL_law_166 : decode cL_law 166 = .ok (.iconst 2, 1) := by decide +kernel
theorem dL_law_167 : decode cL_law 167 = .ok (.iadd, 1) := by decide +kernel
theorem dL_law_168 : decode cL_law 168 = .ok (.iaload, 1) := by decide +kernel
theorem dL_law_169 : decode cL_law 169 = .ok (.invokevirtual 17, 3) := by decide +kernel
theorem dL_law_172 : decode cL_law 172 = .ok (.if_icmp .eq 584, 3) := by decide +kernel
theorem dL_law_175 : decode cL_law 175 = .ok (.iconst 0, 1) := by decide +kernel
theorem dL_law_176 : decode cL_law 176 = .ok (.ireturn, 1) := by decide +kernel
theorem dL_law_177 : decode cL_law 177 = .ok (.aload_n 1, 1) := by decide +kernel
theorem dL_law_178 : decode cL_law 178 = .ok (.aload_n 0, 1) := by decide +kernel
theorem dL_law_179 : decode cL_law 179 = .ok (.iload_n 3, 1) := by decide +kernel
theorem dL_law_180 : decode cL_law 180 = .ok (.iconst 1, 1) := by decide +kernel
theorem dL_law_181 : decode cL_law 181 = .ok (.iadd, 1) := by decide +kernel
theorem dL_law_182 : decode cL_law 182 = .ok (.iaload, 1) := by decide +kernel
theorem dL_law_183 : decode cL_law 183 = .ok (.aload_n 0, 1) := by decide +kernel
theorem dL_law_184 : decode cL_law 184 = .ok (.iload_n 3, 1) := by decide +kernel
theorem dL_law_185 : decode cL_law 185 = .ok (.iconst 2, 1) := by decide +kernel
theorem dL_law_186 : decode cL_law 186 = .ok (.iadd, 1) := by decide +kernel
theorem dL_law_187 : decode cL_law 187 = .ok (.iaload, 1) := by decide +kernel
theorem dL_law_188 : decode cL_law 188 = .ok (.invokevirtual 18, 3) := by decide +kernel
theorem dL_law_191 : decode cL_law 191 = .ok (.aload_n 2, 1) := by decide +kernel
theorem dL_law_192 : decode cL_law 192 = .ok (.aload_n 0, 1) := by decide +kernel
theorem dL_law_193 : decode cL_law 193 = .ok (.iload_n 3, 1) := by decide +kernel
theorem dL_law_194 : decode cL_law 194 = .ok (.iconst 1, 1) := by decide +kernel
theorem dL_law_195 : decode cL_law 195 = .ok (.iadd, 1) := by decide +kernel
theorem dL_law_196 : decode cL_law 196 = .ok (.iaload, 1) := by decide +kernel
theorem dL_law_197 : decode cL_law 197 = .ok (.aload_n 0, 1) := by decide +kernel
theorem dL_law_198 : decode cL_law 198 = .ok (.iload_n 3, 1) := by decide +kernel
theorem dL_law_199 : decode cL_law 199 = .ok (.iconst 2, 1) := by decide +kernel
theorem dL_law_200 : decode cL_law 200 = .ok (.iadd, 1) := by decide +kernel
theorem dL_law_201 : decode cL_law 201 = .ok (.iaload, 1) := by decide +kernel
theorem dL_law_202 : decode cL_law 202 = .ok (.invokevirtual 21, 3) := by decide +kernel
theorem dL_law_205 : decode cL_law 205 = .ok (.if_icmp .eq 551, 3) := by decide +kernel
theorem dL_law_208 : decode cL_law 208 = .ok (.iconst 0, 1) := by decide +kernel
theorem dL_law_209 : decode cL_law 209 = .ok (.ireturn, 1) := by decide +kernel
theorem dL_law_210 : decode cL_law 210 = .ok (.aload_n 1, 1) := by decide +kernel
theorem dL_law_211 : decode cL_law 211 = .ok (.invokevirtual 22, 3) := by decide +kernel
theorem dL_law_214 : decode cL_law 214 = .ok (.aload_n 2, 1) := by decide +kernel
theorem dL_law_215 : decode cL_law 215 = .ok (.invokevirtual 26, 3) := by decide +kernel
theorem dL_law_218 : decode cL_law 218 = .ok (.if_icmp .eq 538, 3) := by decide +kernel
theorem dL_law_221 : decode cL_law 221 = .ok (.iconst 0, 1) := by decide +kernel
theorem dL_law_222 : decode cL_law 222 = .ok (.ireturn, 1) := by decide +kernel
theorem dL_law_223 : decode cL_law 223 = .ok (.aload_n 1, 1) := by decide +kernel
theorem dL_law_224 : decode cL_law 224 = .ok (.aload_n 0, 1) := by decide +kernel
theorem dL_law_225 : decode cL_law 225 = .ok (.iload_n 3, 1) := by decide +kernel
theorem dL_law_226 : decode cL_law 226 = .ok (.iconst 1, 1) := by decide +kernel
theorem dL_law_227 : decode cL_law 227 = .ok (.iadd, 1) := by decide +kernel
theorem dL_law_228 : decode cL_law 228 = .ok (.iaload, 1) := by decide +kernel
theorem dL_law_229 : decode cL_law 229 = .ok (.invokevirtual 27, 3) := by decide +kernel
theorem dL_law_232 : decode cL_law 232 = .ok (.aload_n 2, 1) := by decide +kernel
theorem dL_law_233 : decode cL_law 233 = .ok (.aload_n 0, 1) := by decide +kernel
theorem dL_law_234 : decode cL_law 234 = .ok (.iload_n 3, 1) := by decide +kernel
theorem dL_law_235 : decode cL_law 235 = .ok (.iconst 1, 1) := by decide +kernel
theorem dL_law_236 : decode cL_law 236 = .ok (.iadd, 1) := by decide +kernel
theorem dL_law_237 : decode cL_law 237 = .ok (.iaload, 1) := by decide +kernel
theorem dL_law_238 : decode cL_law 238 = .ok (.invokevirtual 31, 3) := by decide +kernel
theorem dL_law_241 : decode cL_law 241 = .ok (.if_icmp .eq 515, 3) := by decide +kernel
theorem dL_law_244 : decode cL_law 244 = .ok (.iconst 0, 1) := by decide +kernel
theorem dL_law_245 : decode cL_law 245 = .ok (.ireturn, 1) := by decide +kernel
theorem dL_law_246 : decode cL_law 246 = .ok (.aload_n 1, 1) := by decide +kernel
theorem dL_law_247 : decode cL_law 247 = .ok (.aload_n 0, 1) := by decide +kernel
theorem dL_law_248 : decode cL_law 248 = .ok (.iload_n 3, 1) := by decide +kernel
theorem dL_law_249 : decode cL_law 249 = .ok (.iconst 1, 1) := by decide +kernel
theorem dL_law_250 : decode cL_law 250 = .ok (.iadd, 1) := by decide +kernel
theorem dL_law_251 : decode cL_law 251 = .ok (.iaload, 1) := by decide +kernel
theorem dL_law_252 : decode cL_law 252 = .ok (.aload_n 0, 1) := by decide +kernel
theorem dL_law_253 : decode cL_law 253 = .ok (.iload_n 3, 1) := by decide +kernel
theorem dL_law_254 : decode cL_law 254 = .ok (.iconst 2, 1) := by decide +kernel
theorem dL_law_255 : decode cL_law 255 = .ok (.iadd, 1) := by decide +kernel
theorem dL_law_256 : decode cL_law 256 = .ok (.iaload, 1) := by decide +kernel
theorem dL_law_257 : decode cL_law 257 = .ok (.aload_n 0, 1) := by decide +kernel
theorem dL_law_258 : decode cL_law 258 = .ok (.iload_n 3, 1) := by decide +kernel
theorem dL_law_259 : decode cL_law 259 = .ok (.iconst 3, 1) := by decide +kernel
theorem dL_law_260 : decode cL_law 260 = .ok (.iadd, 1) := by decide +kernel
theorem dL_law_261 : decode cL_law 261 = .ok (.iaload, 1) := by decide +kernel
theorem dL_law_262 : decode cL_law 262 = .ok (.invokevirtual 32, 3) := by decide +kernel
theorem dL_law_265 : decode cL_law 265 = .ok (.aload_n 2, 1) := by decide +kernel
theorem dL_law_266 : decode cL_law 266 = .ok (.aload_n 0, 1) := by decide +kernel
theorem dL_law_267 : decode cL_law 267 = .ok (.iload_n 3, 1) := by decide +kernel
theorem dL_law_268 : decode cL_law 268 = .ok (.iconst 1, 1) := by decide +kernel
theorem dL_law_269 : decode cL_law 269 = .ok (.iadd, 1) := by decide +kernel
theorem dL_law_270 : decode cL_law 270 = .ok (.iaload, 1) := by decide +kernel
theorem dL_law_271 : decode cL_law 271 = .ok (.aload_n 0, 1) := by decide +kernel
theorem dL_law_272 : decode cL_law 272 = .ok (.iload_n 3, 1) := by decide +kernel
theorem dL_law_273 : decode cL_law 273 = .ok (.iconst 2, 1) := by decide +kernel
theorem dL_law_274 : decode cL_law 274 = .ok (.iadd, 1) := by decide +kernel
theorem dL_law_275 : decode cL_law 275 = .ok (.iaload, 1) := by decide +kernel
theorem dL_law_276 : decode cL_law 276 = .ok (.aload_n 0, 1) := by decide +kernel
theorem dL_law_277 : decode cL_law 277 = .ok (.iload_n 3, 1) := by decide +kernel
theorem dL_law_278 : decode cL_law 278 = .ok (.iconst 3, 1) := by decide +kernel
theorem dL_law_279 : decode cL_law 279 = .ok (.iadd, 1) := by decide +kernel
theorem dL_law_280 : decode cL_law 280 = .ok (.iaload, 1) := by decide +kernel
theorem dL_law_281 : decode cL_law 281 = .ok (.invokevirtual 36, 3) := by decide +kernel
theorem dL_law_284 : decode cL_law 284 = .ok (.if_icmp .eq 472, 3) := by decide +kernel
theorem dL_law_287 : decode cL_law 287 = .ok (.iconst 0, 1) := by decide +kernel
theorem dL_law_288 : decode cL_law 288 = .ok (.ireturn, 1) := by decide +kernel
theorem dL_law_289 : decode cL_law 289 = .ok (.aload_n 1, 1) := by decide +kernel
theorem dL_law_290 : decode cL_law 290 = .ok (.aload_n 0, 1) := by decide +kernel
theorem dL_law_291 : decode cL_law 291 = .ok (.iload_n 3, 1) := by decide +kernel
theorem dL_law_292 : decode cL_law 292 = .ok (.iconst 1, 1) := by decide +kernel
theorem dL_law_293 : decode cL_law 293 = .ok (.iadd, 1) := by decide +kernel
theorem dL_law_294 : decode cL_law 294 = .ok (.iaload, 1) := by decide +kernel
theorem dL_law_295 : decode cL_law 295 = .ok (.aload_n 0, 1) := by decide +kernel
theorem dL_law_296 : decode cL_law 296 = .ok (.iload_n 3, 1) := by decide +kernel
theorem dL_law_297 : decode cL_law 297 = .ok (.iconst 2, 1) := by decide +kernel
theorem dL_law_298 : decode cL_law 298 = .ok (.iadd, 1) := by decide +kernel
theorem dL_law_299 : decode cL_law 299 = .ok (.iaload, 1) := by decide +kernel
theorem dL_law_300 : decode cL_law 300 = .ok (.aload_n 0, 1) := by decide +kernel
theorem dL_law_301 : decode cL_law 301 = .ok (.iload_n 3, 1) := by decide +kernel
theorem dL_law_302 : decode cL_law 302 = .ok (.iconst 3, 1) := by decide +kernel
theorem dL_law_303 : decode cL_law 303 = .ok (.iadd, 1) := by decide +kernel
theorem dL_law_304 : decode cL_law 304 = .ok (.iaload, 1) := by decide +kernel
theorem dL_law_305 : decode cL_law 305 = .ok (.invokevirtual 37, 3) := by decide +kernel
theorem dL_law_308 : decode cL_law 308 = .ok (.aload_n 2, 1) := by decide +kernel
theorem dL_law_309 : decode cL_law 309 = .ok (.aload_n 0, 1) := by decide +kernel
theorem dL_law_310 : decode cL_law 310 = .ok (.iload_n 3, 1) := by decide +kernel
theorem dL_law_311 : decode cL_law 311 = .ok (.iconst 1, 1) := by decide +kernel
theorem dL_law_312 : decode cL_law 312 = .ok (.iadd, 1) := by decide +kernel
theorem dL_law_313 : decode cL_law 313 = .ok (.iaload, 1) := by decide +kernel
theorem dL_law_314 : decode cL_law 314 = .ok (.aload_n 0, 1) := by decide +kernel
theorem dL_law_315 : decode cL_law 315 = .ok (.iload_n 3, 1) := by decide +kernel
theorem dL_law_316 : decode cL_law 316 = .ok (.iconst 2, 1) := by decide +kernel
theorem dL_law_317 : decode cL_law 317 = .ok (.iadd, 1) := by decide +kernel
theorem dL_law_318 : decode cL_law 318 = .ok (.iaload, 1) := by decide +kernel
theorem dL_law_319 : decode cL_law 319 = .ok (.aload_n 0, 1) := by decide +kernel
theorem dL_law_320 : decode cL_law 320 = .ok (.iload_n 3, 1) := by decide +kernel
theorem dL_law_321 : decode cL_law 321 = .ok (.iconst 3, 1) := by decide +kernel
theorem dL_law_322 : decode cL_law 322 = .ok (.iadd, 1) := by decide +kernel
theorem dL_law_323 : decode cL_law 323 = .ok (.iaload, 1) := by decide +kernel
theorem dL_law_324 : decode cL_law 324 = .ok (.invokevirtual 40, 3) := by decide +kernel
theorem dL_law_327 : decode cL_law 327 = .ok (.if_icmp .eq 429, 3) := by decide +kernel
theorem dL_law_330 : decode cL_law 330 = .ok (.iconst 0, 1) := by decide +kernel
theorem dL_law_331 : decode cL_law 331 = .ok (.ireturn, 1) := by decide +kernel
theorem dL_law_332 : decode cL_law 332 = .ok (.aload_n 1, 1) := by decide +kernel
theorem dL_law_333 : decode cL_law 333 = .ok (.aload_n 0, 1) := by decide +kernel
theorem dL_law_334 : decode cL_law 334 = .ok (.iload_n 3, 1) := by decide +kernel
theorem dL_law_335 : decode cL_law 335 = .ok (.iconst 1, 1) := by decide +kernel
theorem dL_law_336 : decode cL_law 336 = .ok (.iadd, 1) := by decide +kernel
theorem dL_law_337 : decode cL_law 337 = .ok (.iaload, 1) := by decide +kernel
theorem dL_law_338 : decode cL_law 338 = .ok (.invokevirtual 41, 3) := by decide +kernel
theorem dL_law_341 : decode cL_law 341 = .ok (.aload_n 2, 1) := by decide +kernel
theorem dL_law_342 : decode cL_law 342 = .ok (.aload_n 0, 1) := by decide +kernel
theorem dL_law_343 : decode cL_law 343 = .ok (.iload_n 3, 1) := by decide +kernel
theorem dL_law_344 : decode cL_law 344 = .ok (.iconst 1, 1) := by decide +kernel
theorem dL_law_345 : decode cL_law 345 = .ok (.iadd, 1) := by decide +kernel
theorem dL_law_346 : decode cL_law 346 = .ok (.iaload, 1) := by decide +kernel
theorem dL_law_347 : decode cL_law 347 = .ok (.invokevirtual 44, 3) := by decide +kernel
theorem dL_law_350 : decode cL_law 350 = .ok (.if_icmp .eq 406, 3) := by decide +kernel
theorem dL_law_353 : decode cL_law 353 = .ok (.iconst 0, 1) := by decide +kernel
theorem dL_law_354 : decode cL_law 354 = .ok (.ireturn, 1) := by decide +kernel
theorem dL_law_355 : decode cL_law 355 = .ok (.aload_n 1, 1) := by decide +kernel
theorem dL_law_356 : decode cL_law 356 = .ok (.aload_n 0, 1) := by decide +kernel
theorem dL_law_357 : decode cL_law 357 = .ok (.iload_n 3, 1) := by decide +kernel
theorem dL_law_358 : decode cL_law 358 = .ok (.iconst 1, 1) := by decide +kernel
theorem dL_law_359 : decode cL_law 359 = .ok (.iadd, 1) := by decide +kernel
theorem dL_law_360 : decode cL_law 360 = .ok (.iaload, 1) := by decide +kernel
theorem dL_law_361 : decode cL_law 361 = .ok (.invokevirtual 45, 3) := by decide +kernel
theorem dL_law_364 : decode cL_law 364 = .ok (.aload_n 2, 1) := by decide +kernel
theorem dL_law_365 : decode cL_law 365 = .ok (.aload_n 0, 1) := by decide +kernel
theorem dL_law_366 : decode cL_law 366 = .ok (.iload_n 3, 1) := by decide +kernel
theorem dL_law_367 : decode cL_law 367 = .ok (.iconst 1, 1) := by decide +kernel
theorem dL_law_368 : decode cL_law 368 = .ok (.iadd, 1) := by decide +kernel
theorem dL_law_369 : decode cL_law 369 = .ok (.iaload, 1) := by decide +kernel
theorem dL_law_370 : decode cL_law 370 = .ok (.invokevirtual 48, 3) := by decide +kernel
theorem dL_law_373 : decode cL_law 373 = .ok (.if_icmp .eq 383, 3) := by decide +kernel
theorem dL_law_376 : decode cL_law 376 = .ok (.iconst 0, 1) := by decide +kernel
theorem dL_law_377 : decode cL_law 377 = .ok (.ireturn, 1) := by decide +kernel
theorem dL_law_378 : decode cL_law 378 = .ok (.aload_n 1, 1) := by decide +kernel
theorem dL_law_379 : decode cL_law 379 = .ok (.invokevirtual 49, 3) := by decide +kernel
theorem dL_law_382 : decode cL_law 382 = .ok (.aload_n 2, 1) := by decide +kernel
theorem dL_law_383 : decode cL_law 383 = .ok (.invokevirtual 52, 3) := by decide +kernel
theorem dL_law_386 : decode cL_law 386 = .ok (.if_icmp .eq 370, 3) := by decide +kernel
theorem dL_law_389 : decode cL_law 389 = .ok (.iconst 0, 1) := by decide +kernel
theorem dL_law_390 : decode cL_law 390 = .ok (.ireturn, 1) := by decide +kernel
theorem dL_law_391 : decode cL_law 391 = .ok (.aload_n 1, 1) := by decide +kernel
theorem dL_law_392 : decode cL_law 392 = .ok (.aload_n 0, 1) := by decide +kernel
theorem dL_law_393 : decode cL_law 393 = .ok (.iload_n 3, 1) := by decide +kernel
theorem dL_law_394 : decode cL_law 394 = .ok (.iconst 1, 1) := by decide +kernel
theorem dL_law_395 : decode cL_law 395 = .ok (.iadd, 1) := by decide +kernel
theorem dL_law_396 : decode cL_law 396 = .ok (.iaload, 1) := by decide +kernel
theorem dL_law_397 : decode cL_law 397 = .ok (.aload_n 0, 1) := by decide +kernel
theorem dL_law_398 : decode cL_law 398 = .ok (.iload_n 3, 1) := by decide +kernel
theorem dL_law_399 : decode cL_law 399 = .ok (.iconst 2, 1) := by decide +kernel
theorem dL_law_400 : decode cL_law 400 = .ok (.iadd, 1) := by decide +kernel
theorem dL_law_401 : decode cL_law 401 = .ok (.iaload, 1) := by decide +kernel
theorem dL_law_402 : decode cL_law 402 = .ok (.invokevirtual 53, 3) := by decide +kernel
theorem dL_law_405 : decode cL_law 405 = .ok (.aload_n 2, 1) := by decide +kernel
theorem dL_law_406 : decode cL_law 406 = .ok (.aload_n 0, 1) := by decide +kernel
theorem dL_law_407 : decode cL_law 407 = .ok (.iload_n 3, 1) := by decide +kernel
theorem dL_law_408 : decode cL_law 408 = .ok (.iconst 1, 1) := by decide +kernel
theorem dL_law_409 : decode cL_law 409 = .ok (.iadd, 1) := by decide +kernel
theorem dL_law_410 : decode cL_law 410 = .ok (.iaload, 1) := by decide +kernel
theorem dL_law_411 : decode cL_law 411 = .ok (.aload_n 0, 1) := by decide +kernel
theorem dL_law_412 : decode cL_law 412 = .ok (.iload_n 3, 1) := by decide +kernel
theorem dL_law_413 : decode cL_law 413 = .ok (.iconst 2, 1) := by decide +kernel
theorem dL_law_414 : decode cL_law 414 = .ok (.iadd, 1) := by decide +kernel
theorem dL_law_415 : decode cL_law 415 = .ok (.iaload, 1) := by decide +kernel
theorem dL_law_416 : decode cL_law 416 = .ok (.invokevirtual 56, 3) := by decide +kernel
theorem dL_law_419 : decode cL_law 419 = .ok (.if_icmp .eq 337, 3) := by decide +kernel
theorem dL_law_422 : decode cL_law 422 = .ok (.iconst 0, 1) := by decide +kernel
theorem dL_law_423 : decode cL_law 423 = .ok (.ireturn, 1) := by decide +kernel
theorem dL_law_424 : decode cL_law 424 = .ok (.aload_n 1, 1) := by decide +kernel
theorem dL_law_425 : decode cL_law 425 = .ok (.aload_n 0, 1) := by decide +kernel
theorem dL_law_426 : decode cL_law 426 = .ok (.iload_n 3, 1) := by decide +kernel
theorem dL_law_427 : decode cL_law 427 = .ok (.iconst 1, 1) := by decide +kernel
theorem dL_law_428 : decode cL_law 428 = .ok (.iadd, 1) := by decide +kernel
theorem dL_law_429 : decode cL_law 429 = .ok (.iaload, 1) := by decide +kernel
theorem dL_law_430 : decode cL_law 430 = .ok (.aload_n 0, 1) := by decide +kernel
theorem dL_law_431 : decode cL_law 431 = .ok (.iload_n 3, 1) := by decide +kernel
theorem dL_law_432 : decode cL_law 432 = .ok (.iconst 2, 1) := by decide +kernel
theorem dL_law_433 : decode cL_law 433 = .ok (.iadd, 1) := by decide +kernel
theorem dL_law_434 : decode cL_law 434 = .ok (.iaload, 1) := by decide +kernel
theorem dL_law_435 : decode cL_law 435 = .ok (.invokevirtual 57, 3) := by decide +kernel
theorem dL_law_438 : decode cL_law 438 = .ok (.aload_n 2, 1) := by decide +kernel
theorem dL_law_439 : decode cL_law 439 = .ok (.aload_n 0, 1) := by decide +kernel
theorem dL_law_440 : decode cL_law 440 = .ok (.iload_n 3, 1) := by decide +kernel
theorem dL_law_441 : decode cL_law 441 = .ok (.iconst 1, 1) := by decide +kernel
theorem dL_law_442 : decode cL_law 442 = .ok (.iadd, 1) := by decide +kernel
theorem dL_law_443 : decode cL_law 443 = .ok (.iaload, 1) := by decide +kernel
theorem dL_law_444 : decode cL_law 444 = .ok (.aload_n 0, 1) := by decide +kernel
theorem dL_law_445 : decode cL_law 445 = .ok (.iload_n 3, 1) := by decide +kernel
theorem dL_law_446 : decode cL_law 446 = .ok (.iconst 2, 1) := by decide +kernel
theorem dL_law_447 : decode cL_law 447 = .ok (.iadd, 1) := by decide +kernel
theorem dL_law_448 : decode cL_law 448 = .ok (.iaload, 1) := by decide +kernel
theorem dL_law_449 : decode cL_law 449 = .ok (.invokevirtual 60, 3) := by decide +kernel
theorem dL_law_452 : decode cL_law 452 = .ok (.if_icmp .eq 304, 3) := by decide +kernel
theorem dL_law_455 : decode cL_law 455 = .ok (.iconst 0, 1) := by decide +kernel
theorem dL_law_456 : decode cL_law 456 = .ok (.ireturn, 1) := by decide +kernel
theorem dL_law_457 : decode cL_law 457 = .ok (.aload_n 1, 1) := by decide +kernel
theorem dL_law_458 : decode cL_law 458 = .ok (.aload_n 0, 1) := by decide +kernel
theorem dL_law_459 : decode cL_law 459 = .ok (.iload_n 3, 1) := by decide +kernel
theorem dL_law_460 : decode cL_law 460 = .ok (.iconst 1, 1) := by decide +kernel
theorem dL_law_461 : decode cL_law 461 = .ok (.iadd, 1) := by decide +kernel
theorem dL_law_462 : decode cL_law 462 = .ok (.iaload, 1) := by decide +kernel
theorem dL_law_463 : decode cL_law 463 = .ok (.invokevirtual 61, 3) := by decide +kernel
theorem dL_law_466 : decode cL_law 466 = .ok (.aload_n 2, 1) := by decide +kernel
theorem dL_law_467 : decode cL_law 467 = .ok (.aload_n 0, 1) := by decide +kernel
theorem dL_law_468 : decode cL_law 468 = .ok (.iload_n 3, 1) := by decide +kernel
theorem dL_law_469 : decode cL_law 469 = .ok (.iconst 1, 1) := by decide +kernel
theorem dL_law_470 : decode cL_law 470 = .ok (.iadd, 1) := by decide +kernel
theorem dL_law_471 : decode cL_law 471 = .ok (.iaload, 1) := by decide +kernel
theorem dL_law_472 : decode cL_law 472 = .ok (.invokevirtual 64, 3) := by decide +kernel
theorem dL_law_475 : decode cL_law 475 = .ok (.if_icmp .eq 281, 3) := by decide +kernel
theorem dL_law_478 : decode cL_law 478 = .ok (.iconst 0, 1) := by decide +kernel
theorem dL_law_479 : decode cL_law 479 = .ok (.ireturn, 1) := by decide +kernel
theorem dL_law_480 : decode cL_law 480 = .ok (.aload_n 1, 1) := by decide +kernel
theorem dL_law_481 : decode cL_law 481 = .ok (.aload_n 0, 1) := by decide +kernel
theorem dL_law_482 : decode cL_law 482 = .ok (.iload_n 3, 1) := by decide +kernel
theorem dL_law_483 : decode cL_law 483 = .ok (.iconst 1, 1) := by decide +kernel
theorem dL_law_484 : decode cL_law 484 = .ok (.iadd, 1) := by decide +kernel
theorem dL_law_485 : decode cL_law 485 = .ok (.iaload, 1) := by decide +kernel
theorem dL_law_486 : decode cL_law 486 = .ok (.aload_n 0, 1) := by decide +kernel
theorem dL_law_487 : decode cL_law 487 = .ok (.iload_n 3, 1) := by decide +kernel
theorem dL_law_488 : decode cL_law 488 = .ok (.iconst 2, 1) := by decide +kernel
theorem dL_law_489 : decode cL_law 489 = .ok (.iadd, 1) := by decide +kernel
theorem dL_law_490 : decode cL_law 490 = .ok (.iaload, 1) := by decide +kernel
theorem dL_law_491 : decode cL_law 491 = .ok (.invokevirtual 65, 3) := by decide +kernel
theorem dL_law_494 : decode cL_law 494 = .ok (.aload_n 2, 1) := by decide +kernel
theorem dL_law_495 : decode cL_law 495 = .ok (.aload_n 0, 1) := by decide +kernel
theorem dL_law_496 : decode cL_law 496 = .ok (.iload_n 3, 1) := by decide +kernel
theorem dL_law_497 : decode cL_law 497 = .ok (.iconst 1, 1) := by decide +kernel
theorem dL_law_498 : decode cL_law 498 = .ok (.iadd, 1) := by decide +kernel
theorem dL_law_499 : decode cL_law 499 = .ok (.iaload, 1) := by decide +kernel
theorem dL_law_500 : decode cL_law 500 = .ok (.aload_n 0, 1) := by decide +kernel
theorem dL_law_501 : decode cL_law 501 = .ok (.iload_n 3, 1) := by decide +kernel
theorem dL_law_502 : decode cL_law 502 = .ok (.iconst 2, 1) := by decide +kernel
theorem dL_law_503 : decode cL_law 503 = .ok (.iadd, 1) := by decide +kernel
theorem dL_law_504 : decode cL_law 504 = .ok (.iaload, 1) := by decide +kernel
theorem dL_law_505 : decode cL_law 505 = .ok (.invokevirtual 68, 3) := by decide +kernel
theorem dL_law_508 : decode cL_law 508 = .ok (.if_icmp .eq 248, 3) := by decide +kernel
theorem dL_law_511 : decode cL_law 511 = .ok (.iconst 0, 1) := by decide +kernel
theorem dL_law_512 : decode cL_law 512 = .ok (.ireturn, 1) := by decide +kernel
theorem dL_law_513 : decode cL_law 513 = .ok (.aload_n 1, 1) := by decide +kernel
theorem dL_law_514 : decode cL_law 514 = .ok (.aload_n 0, 1) := by decide +kernel
theorem dL_law_515 : decode cL_law 515 = .ok (.iload_n 3, 1) := by decide +kernel
theorem dL_law_516 : decode cL_law 516 = .ok (.iconst 1, 1) := by decide +kernel
theorem dL_law_517 : decode cL_law 517 = .ok (.iadd, 1) := by decide +kernel
theorem dL_law_518 : decode cL_law 518 = .ok (.iaload, 1) := by decide +kernel
theorem dL_law_519 : decode cL_law 519 = .ok (.aload_n 0, 1) := by decide +kernel
theorem dL_law_520 : decode cL_law 520 = .ok (.iload_n 3, 1) := by decide +kernel
theorem dL_law_521 : decode cL_law 521 = .ok (.iconst 2, 1) := by decide +kernel
theorem dL_law_522 : decode cL_law 522 = .ok (.iadd, 1) := by decide +kernel
theorem dL_law_523 : decode cL_law 523 = .ok (.iaload, 1) := by decide +kernel
theorem dL_law_524 : decode cL_law 524 = .ok (.invokevirtual 69, 3) := by decide +kernel
theorem dL_law_527 : decode cL_law 527 = .ok (.aload_n 2, 1) := by decide +kernel
theorem dL_law_528 : decode cL_law 528 = .ok (.aload_n 0, 1) := by decide +kernel
theorem dL_law_529 : decode cL_law 529 = .ok (.iload_n 3, 1) := by decide +kernel
theorem dL_law_530 : decode cL_law 530 = .ok (.iconst 1, 1) := by decide +kernel
theorem dL_law_531 : decode cL_law 531 = .ok (.iadd, 1) := by decide +kernel
theorem dL_law_532 : decode cL_law 532 = .ok (.iaload, 1) := by decide +kernel
theorem dL_law_533 : decode cL_law 533 = .ok (.aload_n 0, 1) := by decide +kernel
theorem dL_law_534 : decode cL_law 534 = .ok (.iload_n 3, 1) := by decide +kernel
theorem dL_law_535 : decode cL_law 535 = .ok (.iconst 2, 1) := by decide +kernel
theorem dL_law_536 : decode cL_law 536 = .ok (.iadd, 1) := by decide +kernel
theorem dL_law_537 : decode cL_law 537 = .ok (.iaload, 1) := by decide +kernel
theorem dL_law_538 : decode cL_law 538 = .ok (.invokevirtual 72, 3) := by decide +kernel
theorem dL_law_541 : decode cL_law 541 = .ok (.if_icmp .eq 215, 3) := by decide +kernel
theorem dL_law_544 : decode cL_law 544 = .ok (.iconst 0, 1) := by decide +kernel
theorem dL_law_545 : decode cL_law 545 = .ok (.ireturn, 1) := by decide +kernel
theorem dL_law_546 : decode cL_law 546 = .ok (.aload_n 1, 1) := by decide +kernel
theorem dL_law_547 : decode cL_law 547 = .ok (.invokevirtual 73, 3) := by decide +kernel
theorem dL_law_550 : decode cL_law 550 = .ok (.aload_n 2, 1) := by decide +kernel
theorem dL_law_551 : decode cL_law 551 = .ok (.invokevirtual 76, 3) := by decide +kernel
theorem dL_law_554 : decode cL_law 554 = .ok (.if_icmp .eq 202, 3) := by decide +kernel
theorem dL_law_557 : decode cL_law 557 = .ok (.iconst 0, 1) := by decide +kernel
theorem dL_law_558 : decode cL_law 558 = .ok (.ireturn, 1) := by decide +kernel
theorem dL_law_559 : decode cL_law 559 = .ok (.aload_n 1, 1) := by decide +kernel
theorem dL_law_560 : decode cL_law 560 = .ok (.aload_n 0, 1) := by decide +kernel
theorem dL_law_561 : decode cL_law 561 = .ok (.iload_n 3, 1) := by decide +kernel
theorem dL_law_562 : decode cL_law 562 = .ok (.iconst 1, 1) := by decide +kernel
theorem dL_law_563 : decode cL_law 563 = .ok (.iadd, 1) := by decide +kernel
theorem dL_law_564 : decode cL_law 564 = .ok (.iaload, 1) := by decide +kernel
theorem dL_law_565 : decode cL_law 565 = .ok (.aload_n 0, 1) := by decide +kernel
theorem dL_law_566 : decode cL_law 566 = .ok (.iload_n 3, 1) := by decide +kernel
theorem dL_law_567 : decode cL_law 567 = .ok (.iconst 2, 1) := by decide +kernel
theorem dL_law_568 : decode cL_law 568 = .ok (.iadd, 1) := by decide +kernel
theorem dL_law_569 : decode cL_law 569 = .ok (.iaload, 1) := by decide +kernel
theorem dL_law_570 : decode cL_law 570 = .ok (.invokevirtual 77, 3) := by decide +kernel
theorem dL_law_573 : decode cL_law 573 = .ok (.aload_n 2, 1) := by decide +kernel
theorem dL_law_574 : decode cL_law 574 = .ok (.aload_n 0, 1) := by decide +kernel
theorem dL_law_575 : decode cL_law 575 = .ok (.iload_n 3, 1) := by decide +kernel
theorem dL_law_576 : decode cL_law 576 = .ok (.iconst 1, 1) := by decide +kernel
theorem dL_law_577 : decode cL_law 577 = .ok (.iadd, 1) := by decide +kernel
theorem dL_law_578 : decode cL_law 578 = .ok (.iaload, 1) := by decide +kernel
theorem dL_law_579 : decode cL_law 579 = .ok (.aload_n 0, 1) := by decide +kernel
theorem dL_law_580 : decode cL_law 580 = .ok (.iload_n 3, 1) := by decide +kernel
theorem dL_law_581 : decode cL_law 581 = .ok (.iconst 2, 1) := by decide +kernel
theorem dL_law_582 : decode cL_law 582 = .ok (.iadd, 1) := by decide +kernel
theorem dL_law_583 : decode cL_law 583 = .ok (.iaload, 1) := by decide +kernel
theorem dL_law_584 : decode cL_law 584 = .ok (.invokevirtual 80, 3) := by decide +kernel
theorem dL_law_587 : decode cL_law 587 = .ok (.if_icmp .eq 169, 3) := by decide +kernel
theorem dL_law_590 : decode cL_law 590 = .ok (.iconst 0, 1) := by decide +kernel
theorem dL_law_591 : decode cL_law 591 = .ok (.ireturn, 1) := by decide +kernel
theorem dL_law_592 : decode cL_law 592 = .ok (.aload_n 1, 1) := by decide +kernel
theorem dL_law_593 : decode cL_law 593 = .ok (.aload_n 0, 1) := by decide +kernel
theorem dL_law_594 : decode cL_law 594 = .ok (.iload_n 3, 1) := by decide +kernel
theorem dL_law_595 : decode cL_law 595 = .ok (.iconst 1, 1) := by decide +kernel
theorem dL_law_596 : decode cL_law 596 = .ok (.iadd, 1) := by decide +kernel
theorem dL_law_597 : decode cL_law 597 = .ok (.iaload, 1) := by decide +kernel
theorem dL_law_598 : decode cL_law 598 = .ok (.aload_n 0, 1) := by decide +kernel
theorem dL_law_599 : decode cL_law 599 = .ok (.iload_n 3, 1) := by decide +kernel
theorem dL_law_600 : decode cL_law 600 = .ok (.iconst 2, 1) := by decide +kernel
theorem dL_law_601 : decode cL_law 601 = .ok (.iadd, 1) := by decide +kernel
theorem dL_law_602 : decode cL_law 602 = .ok (.iaload, 1) := by decide +kernel
theorem dL_law_603 : decode cL_law 603 = .ok (.invokevirtual 81, 3) := by decide +kernel
theorem dL_law_606 : decode cL_law 606 = .ok (.aload_n 2, 1) := by decide +kernel
theorem dL_law_607 : decode cL_law 607 = .ok (.aload_n 0, 1) := by decide +kernel
theorem dL_law_608 : decode cL_law 608 = .ok (.iload_n 3, 1) := by decide +kernel
theorem dL_law_609 : decode cL_law 609 = .ok (.iconst 1, 1) := by decide +kernel
theorem dL_law_610 : decode cL_law 610 = .ok (.iadd, 1) := by decide +kernel
theorem dL_law_611 : decode cL_law 611 = .ok (.iaload, 1) := by decide +kernel
theorem dL_law_612 : decode cL_law 612 = .ok (.aload_n 0, 1) := by decide +kernel
theorem dL_law_613 : decode cL_law 613 = .ok (.iload_n 3, 1) := by decide +kernel
theorem dL_law_614 : decode cL_law 614 = .ok (.iconst 2, 1) := by decide +kernel
theorem dL_law_615 : decode cL_law 615 = .ok (.iadd, 1) := by decide +kernel
theorem dL_law_616 : decode cL_law 616 = .ok (.iaload, 1) := by decide +kernel
theorem dL_law_617 : decode cL_law 617 = .ok (.invokevirtual 84, 3) := by decide +kernel
theorem dL_law_620 : decode cL_law 620 = .ok (.if_icmp .eq 136, 3) := by decide +kernel
theorem dL_law_623 : decode cL_law 623 = .ok (.iconst 0, 1) := by decide +kernel
theorem dL_law_624 : decode cL_law 624 = .ok (.ireturn, 1) := by decide +kernel
theorem dL_law_625 : decode cL_law 625 = .ok (.aload_n 1, 1) := by decide +kernel
theorem dL_law_626 : decode cL_law 626 = .ok (.aload_n 0, 1) := by decide +kernel
theorem dL_law_627 : decode cL_law 627 = .ok (.iload_n 3, 1) := by decide +kernel
theorem dL_law_628 : decode cL_law 628 = .ok (.iconst 1, 1) := by decide +kernel
theorem dL_law_629 : decode cL_law 629 = .ok (.iadd, 1) := by decide +kernel
theorem dL_law_630 : decode cL_law 630 = .ok (.iaload, 1) := by decide +kernel
theorem dL_law_631 : decode cL_law 631 = .ok (.invokevirtual 85, 3) := by decide +kernel
theorem dL_law_634 : decode cL_law 634 = .ok (.aload_n 2, 1) := by decide +kernel
theorem dL_law_635 : decode cL_law 635 = .ok (.aload_n 0, 1) := by decide +kernel
theorem dL_law_636 : decode cL_law 636 = .ok (.iload_n 3, 1) := by decide +kernel
theorem dL_law_637 : decode cL_law 637 = .ok (.iconst 1, 1) := by decide +kernel
theorem dL_law_638 : decode cL_law 638 = .ok (.iadd, 1) := by decide +kernel
theorem dL_law_639 : decode cL_law 639 = .ok (.iaload, 1) := by decide +kernel
theorem dL_law_640 : decode cL_law 640 = .ok (.invokevirtual 88, 3) := by decide +kernel
theorem dL_law_643 : decode cL_law 643 = .ok (.if_icmp .eq 113, 3) := by decide +kernel
theorem dL_law_646 : decode cL_law 646 = .ok (.iconst 0, 1) := by decide +kernel
theorem dL_law_647 : decode cL_law 647 = .ok (.ireturn, 1) := by decide +kernel
theorem dL_law_648 : decode cL_law 648 = .ok (.aload_n 1, 1) := by decide +kernel
theorem dL_law_649 : decode cL_law 649 = .ok (.aload_n 0, 1) := by decide +kernel
theorem dL_law_650 : decode cL_law 650 = .ok (.iload_n 3, 1) := by decide +kernel
theorem dL_law_651 : decode cL_law 651 = .ok (.iconst 1, 1) := by decide +kernel
theorem dL_law_652 : decode cL_law 652 = .ok (.iadd, 1) := by decide +kernel
theorem dL_law_653 : decode cL_law 653 = .ok (.iaload, 1) := by decide +kernel
theorem dL_law_654 : decode cL_law 654 = .ok (.invokevirtual 89, 3) := by decide +kernel
theorem dL_law_657 : decode cL_law 657 = .ok (.aload_n 2, 1) := by decide +kernel
theorem dL_law_658 : decode cL_law 658 = .ok (.aload_n 0, 1) := by decide +kernel
theorem dL_law_659 : decode cL_law 659 = .ok (.iload_n 3, 1) := by decide +kernel
theorem dL_law_660 : decode cL_law 660 = .ok (.iconst 1, 1) := by decide +kernel
theorem dL_law_661 : decode cL_law 661 = .ok (.iadd, 1) := by decide +kernel
theorem dL_law_662 : decode cL_law 662 = .ok (.iaload, 1) := by decide +kernel
theorem dL_law_663 : decode cL_law 663 = .ok (.invokevirtual 92, 3) := by decide +kernel
theorem dL_law_666 : decode cL_law 666 = .ok (.if_icmp .eq 90, 3) := by decide +kernel
theorem dL_law_669 : decode cL_law 669 = .ok (.iconst 0, 1) := by decide +kernel
theorem dL_law_670 : decode cL_law 670 = .ok (.ireturn, 1) := by decide +kernel
theorem dL_law_671 : decode cL_law 671 = .ok (.aload_n 1, 1) := by decide +kernel
theorem dL_law_672 : decode cL_law 672 = .ok (.aload_n 0, 1) := by decide +kernel
theorem dL_law_673 : decode cL_law 673 = .ok (.iload_n 3, 1) := by decide +kernel
theorem dL_law_674 : decode cL_law 674 = .ok (.iconst 1, 1) := by decide +kernel
theorem dL_law_675 : decode cL_law 675 = .ok (.iadd, 1) := by decide +kernel
theorem dL_law_676 : decode cL_law 676 = .ok (.iaload, 1) := by decide +kernel
theorem dL_law_677 : decode cL_law 677 = .ok (.invokevirtual 93, 3) := by decide +kernel
theorem dL_law_680 : decode cL_law 680 = .ok (.aload_n 2, 1) := by decide +kernel
theorem dL_law_681 : decode cL_law 681 = .ok (.aload_n 0, 1) := by decide +kernel
theorem dL_law_682 : decode cL_law 682 = .ok (.iload_n 3, 1) := by decide +kernel
theorem dL_law_683 : decode cL_law 683 = .ok (.iconst 1, 1) := by decide +kernel
theorem dL_law_684 : decode cL_law 684 = .ok (.iadd, 1) := by decide +kernel
theorem dL_law_685 : decode cL_law 685 = .ok (.iaload, 1) := by decide +kernel
theorem dL_law_686 : decode cL_law 686 = .ok (.invokevirtual 96, 3) := by decide +kernel
theorem dL_law_689 : decode cL_law 689 = .ok (.if_icmp .eq 67, 3) := by decide +kernel
theorem dL_law_692 : decode cL_law 692 = .ok (.iconst 0, 1) := by decide +kernel
theorem dL_law_693 : decode cL_law 693 = .ok (.ireturn, 1) := by decide +kernel
theorem dL_law_694 : decode cL_law 694 = .ok (.aload_n 1, 1) := by decide +kernel
theorem dL_law_695 : decode cL_law 695 = .ok (.invokevirtual 97, 3) := by decide +kernel
theorem dL_law_698 : decode cL_law 698 = .ok (.aload_n 2, 1) := by decide +kernel
theorem dL_law_699 : decode cL_law 699 = .ok (.invokevirtual 100, 3) := by decide +kernel
theorem dL_law_702 : decode cL_law 702 = .ok (.if_icmp .eq 54, 3) := by decide +kernel
theorem dL_law_705 : decode cL_law 705 = .ok (.iconst 0, 1) := by decide +kernel
theorem dL_law_706 : decode cL_law 706 = .ok (.ireturn, 1) := by decide +kernel
theorem dL_law_707 : decode cL_law 707 = .ok (.aload_n 1, 1) := by decide +kernel
theorem dL_law_708 : decode cL_law 708 = .ok (.aload_n 0, 1) := by decide +kernel
theorem dL_law_709 : decode cL_law 709 = .ok (.iload_n 3, 1) := by decide +kernel
theorem dL_law_710 : decode cL_law 710 = .ok (.iconst 1, 1) := by decide +kernel
theorem dL_law_711 : decode cL_law 711 = .ok (.iadd, 1) := by decide +kernel
theorem dL_law_712 : decode cL_law 712 = .ok (.iaload, 1) := by decide +kernel
theorem dL_law_713 : decode cL_law 713 = .ok (.invokevirtual 101, 3) := by decide +kernel
theorem dL_law_716 : decode cL_law 716 = .ok (.aload_n 2, 1) := by decide +kernel
theorem dL_law_717 : decode cL_law 717 = .ok (.aload_n 0, 1) := by decide +kernel
theorem dL_law_718 : decode cL_law 718 = .ok (.iload_n 3, 1) := by decide +kernel
theorem dL_law_719 : decode cL_law 719 = .ok (.iconst 1, 1) := by decide +kernel
theorem dL_law_720 : decode cL_law 720 = .ok (.iadd, 1) := by decide +kernel
theorem dL_law_721 : decode cL_law 721 = .ok (.iaload, 1) := by decide +kernel
theorem dL_law_722 : decode cL_law 722 = .ok (.invokevirtual 104, 3) := by decide +kernel
theorem dL_law_725 : decode cL_law 725 = .ok (.if_icmp .eq 31, 3) := by decide +kernel
theorem dL_law_728 : decode cL_law 728 = .ok (.iconst 0, 1) := by decide +kernel
theorem dL_law_729 : decode cL_law 729 = .ok (.ireturn, 1) := by decide +kernel
theorem dL_law_730 : decode cL_law 730 = .ok (.aload_n 1, 1) := by decide +kernel
theorem dL_law_731 : decode cL_law 731 = .ok (.invokevirtual 105, 3) := by decide +kernel
theorem dL_law_734 : decode cL_law 734 = .ok (.aload_n 2, 1) := by decide +kernel
theorem dL_law_735 : decode cL_law 735 = .ok (.invokevirtual 108, 3) := by decide +kernel
theorem dL_law_738 : decode cL_law 738 = .ok (.if_icmp .eq 18, 3) := by decide +kernel
theorem dL_law_741 : decode cL_law 741 = .ok (.iconst 0, 1) := by decide +kernel
theorem dL_law_742 : decode cL_law 742 = .ok (.ireturn, 1) := by decide +kernel
theorem dL_law_743 : decode cL_law 743 = .ok (.aload_n 1, 1) := by decide +kernel
theorem dL_law_744 : decode cL_law 744 = .ok (.invokevirtual 109, 3) := by decide +kernel
theorem dL_law_747 : decode cL_law 747 = .ok (.aload_n 2, 1) := by decide +kernel
theorem dL_law_748 : decode cL_law 748 = .ok (.invokevirtual 112, 3) := by decide +kernel
theorem dL_law_751 : decode cL_law 751 = .ok (.if_icmp .eq 5, 3) := by decide +kernel
theorem dL_law_754 : decode cL_law 754 = .ok (.iconst 0, 1) := by decide +kernel
theorem dL_law_755 : decode cL_law 755 = .ok (.ireturn, 1) := by decide +kernel
theorem dL_law_756 : decode cL_law 756 = .ok (.iinc 3 4, 3) := by decide +kernel
theorem dL_law_759 : decode cL_law 759 = .ok (.goto (-741), 3) := by decide +kernel
theorem dL_law_762 : decode cL_law 762 = .ok (.iconst 1, 1) := by decide +kernel
theorem dL_law_763 : decode cL_law 763 = .ok (.ireturn, 1) := by decide +kernel
end
section
/-! memory: addresses to objects and arrays; its relation to the heap; the rows of the machine over it -/
abbrev mm_O : Type := (Nat × List Value) ⊕ (Nat × Nat × ((Nat → Int32) ⊕ (Nat → Option Nat)))
abbrev mm_M : Type := Nat → Option mm_O
abbrev mm_G : Type := va_G × (Nat → ClassId)
abbrev mm_cl : List vw_C := [(RX0, TX0, 2), (RX1, TX1, 6), (RX2, TX2, 4), (RX3, TX3, 9), (RX4, TX4, 6), (RX5, TX5, 2), (RX6, TX6, 4), (RX7, TX7, 8)]
def mm_ty (tc : Nat → ClassId) : List (ClassId × FieldType) := [(tc 0, .int), (tc 1, .char), (tc 2, .object RX4), (tc 3, .object RX2)]
def mm_e (g : mm_G) : mm_O → va_E
  | .inl (ci, fs) => .inr (ci, fs)
  | .inr (t, n, .inl f) => .inl (g.2 t, n, .inl f)
  | .inr (t, n, .inr r) => .inl (g.2 t, n, .inr (.inr (.inr (.inr r))))
def mm_pf (g : mm_G) (M : mm_M) : Nat → va_E := fun a => match M a with
  | some o => mm_e g o
  | none => .inr (0, [])
def mm_up (M : mm_M) (a : Nat) (o : mm_O) : mm_M := fun q => if q = a then some o else M q
theorem mm_up_s (M : mm_M) (a : Nat) (o : mm_O) : mm_up M a o a = some o := by simp [mm_up]
theorem mm_up_n (M : mm_M) {a q : Nat} (o : mm_O) (h : q ≠ a) : mm_up M a o q = M q := by simp [mm_up, h]
/-- the heap holds the memory, at addresses of a kind -/
def mm_R (g : mm_G) (A : Nat → Prop) (M : mm_M) (H : Heap) : Prop := ∃ L : List Nat, (∀ a, a ∈ L ↔ M a ≠ none) ∧ va_P g.1 mm_cl ([] ++ va_pl L (mm_pf g M)) H ∧ va_D A ([] ++ va_pl L (mm_pf g M))
theorem mm_pf_at {g : mm_G} {M : mm_M} {a : Nat} {o : mm_O} (h : M a = some o) : mm_pf g M a = mm_e g o := by simp [mm_pf, h]
theorem mm_pf_up (g : mm_G) (M : mm_M) (a : Nat) (o : mm_O) : ∀ q, va_up (mm_pf g M) a (mm_e g o) q = mm_pf g (mm_up M a o) q := by
  intro q
  by_cases hq : q = a
  · subst hq; simp [va_up, mm_pf, mm_up]
  · simp [va_up, mm_pf, mm_up, hq]
theorem mm_at {g : mm_G} {M : mm_M} {L : List Nat} (hL : ∀ a, a ∈ L ↔ M a ≠ none) {a : Nat} {o : mm_O} (h : M a = some o) : a ∈ L ∧ ∃ k : Nat, ([] ++ va_pl L (mm_pf g M))[k]? = some (a, mm_e g o) := by
  have ha : a ∈ L := (hL a).mpr (by rw [h]; exact fun z => by cases z)
  obtain ⟨k, hk⟩ := va_pl_get (X := []) (f := mm_pf g M) ha
  exact ⟨ha, k, by rw [hk, mm_pf_at h]⟩
/-- a cell that is there gets another content -/
theorem mm_R_set {g : mm_G} {A : Nat → Prop} {M : mm_M} {L : List Nat} (hL : ∀ a, a ∈ L ↔ M a ≠ none) {a k : Nat} {o o' : mm_O} (h : M a = some o) (hD : va_D A ([] ++ va_pl L (mm_pf g M))) (hk : ([] ++ va_pl L (mm_pf g M))[k]? = some (a, mm_e g o)) {H : Heap}
    (hP' : va_P g.1 mm_cl (([] ++ va_pl L (mm_pf g M)).set k (a, mm_e g o')) H) (hD' : va_D A (([] ++ va_pl L (mm_pf g M)).set k (a, mm_e g o'))) : mm_R g A (mm_up M a o') H := by
  have ha : a ∈ L := (hL a).mpr (by rw [h]; exact fun z => by cases z)
  have e : ([] ++ va_pl L (mm_pf g M)).set k (a, mm_e g o') = [] ++ va_pl L (mm_pf g (mm_up M a o')) := by
    rw [va_pl_set hD ha (by rw [hk, mm_pf_at h])]
    exact congrArg (fun l => [] ++ l) (va_pl_congr (mm_pf_up g M a o'))
  refine ⟨L, fun q => ?_, by rw [← e]; exact hP', by rw [← e]; exact hD'⟩
  by_cases hq : q = a
  · subst hq
    simp [mm_up, ha]
  · rw [mm_up_n M o' hq]; exact hL q
/-- a new cell -/
theorem mm_R_new {g : mm_G} {A : Nat → Prop} {M : mm_M} {L : List Nat} (hL : ∀ a, a ∈ L ↔ M a ≠ none) {q : Nat} {o : mm_O} {H : Heap}
    (hP' : va_P g.1 mm_cl (([] ++ va_pl L (mm_pf g M)) ++ [(q, mm_e g o)]) H) (hD' : va_D A (([] ++ va_pl L (mm_pf g M)) ++ [(q, mm_e g o)])) : M q = none ∧ mm_R g A (mm_up M q o) H := by
  have hq : q ∉ L := va_pl_fresh2 hD'
  have e : ([] ++ va_pl L (mm_pf g M)) ++ [(q, mm_e g o)] = [] ++ va_pl (L ++ [q]) (mm_pf g (mm_up M q o)) := by
    rw [List.append_assoc, va_pl_push hq]
    exact congrArg (fun l => [] ++ l) (va_pl_congr (mm_pf_up g M q o))
  have hn : M q = none := by
    cases hm : M q with
    | none => rfl
    | some o => exact absurd ((hL q).mpr (by rw [hm]; exact fun z => by cases z)) hq
  refine ⟨hn, L ++ [q], fun r => ?_, by rw [← e]; exact hP', by rw [← e]; exact hD'⟩
  by_cases hr : r = q
  · subst hr
    simp [mm_up]
  · rw [mm_up_n M o hr]; simp [hr, hL r]
theorem mm_R_A {g : mm_G} {A : Nat → Prop} {M : mm_M} {H : Heap} (h : mm_R g A M H) {a : Nat} {o : mm_O} (hM : M a = some o) : A a ∧ a < H.size := by
  obtain ⟨L, hL, hP, hD⟩ := h
  obtain ⟨-, k, hk⟩ := mm_at (g := g) hL hM
  exact ⟨hD.2 k _ hk, (hP k _ hk).lt⟩
-- the words
def mm_gw : List Cond := lw_tbl.filter goodWord
theorem mm_gwI {w : Cond} (i : Nat) (h : lw_tbl[i]? = some w) (hg : goodWord w = true) : w ∈ mm_gw := List.mem_filter.mpr ⟨List.mem_of_getElem? h, hg⟩
theorem mm_gw_good {c : Cond} (hc : c ∈ mm_gw) {cs : List Cond} : GoodIn (cs ++ mm_gw) (c :: mm_gw) := by
  have hg : ∀ w ∈ mm_gw, goodWord w = true := fun w h => (List.mem_filter.mp h).2
  intro w hw
  rcases List.mem_cons.mp hw with rfl | h
  · exact ⟨List.mem_append_right _ hc, good_of_word (hg _ hc)⟩
  · exact ⟨List.mem_append_right _ h, good_of_word (hg _ h)⟩
theorem mm_good : GoodIn mm_gw mm_gw := fun w h => ⟨h, good_of_word (List.mem_filter.mp h).2⟩
-- nest mates and arrays of references
def mm_n1 : Cond := .methodLinkNest RX3 28 yX4_init RX6
def mm_n2 : Cond := .methodLinkNest RX6 28 yX5_init RX6
def mm_n3 : Cond := .methodLinkNest RX3 65 yX6_isShade RX6
def mm_K (g : mm_G) (U : State) : Prop := va_K g.1 mm_cl (mm_ty g.2) U ∧ va_Nw mm_n1 U ∧ va_Nw mm_n2 U ∧ va_Nw mm_n3 U ∧ va_AO RX4 U ∧ va_AO RX2 U
theorem mm_K.warm {g : mm_G} {s U : State} (hW : s.WarmedH U.vm) (h : mm_K g s) : mm_K g U :=
  ⟨va_K.moved hW.alike h.1, va_Nw.warmM hW h.2.1, va_Nw.warmM hW h.2.2.1, va_Nw.warmM hW h.2.2.2.1, va_AO.moved hW.alike h.2.2.2.2.1, va_AO.moved hW.alike h.2.2.2.2.2⟩
theorem mm_K.same {g : mm_G} {s U : State} (hv : s.vm = U.vm) (h : mm_K g s) : mm_K g U :=
  ⟨va_K.moved (by rw [← hv]; exact Vm.Alike.refl s.vm) h.1, va_Nw.same rfl hv h.2.1, va_Nw.same rfl hv h.2.2.1, va_Nw.same rfl hv h.2.2.2.1, va_AO.moved (by rw [← hv]; exact Vm.Alike.refl s.vm) h.2.2.2.2.1, va_AO.moved (by rw [← hv]; exact Vm.Alike.refl s.vm) h.2.2.2.2.2⟩
/-- what stands of the method that runs -/
def mm_C (g : mm_G) (own : String) (cc : ByteArray) (nL : Nat) (p : Program) (s : State) (m : MethodId) (args : Array Value) (meth : Method) (c : Code) : Prop :=
  p.tables.exec = Jvm.exec ∧ c.code = cc ∧ c.maxLocals = nL ∧ s.vm.findClass own = some m.cls ∧ (∀ w ∈ mm_gw, w.before args s = true) ∧ mm_K g s ∧ meth.locks = false
-- what is read and written
def mm_gI (ci : Nat) (M : mm_M) (a k : Nat) : Option Int32 := match M a with
  | some (.inl (c, fs)) => if c = ci then (match fs[k]? with | some (.int x) => some x | _ => none) else none
  | _ => none
def mm_gR (ci : Nat) (M : mm_M) (a k : Nat) : Option Nat := match M a with
  | some (.inl (c, fs)) => if c = ci then (match fs[k]? with | some (.ref x) => some x | _ => none) else none
  | _ => none
def mm_pI (ci : Nat) (M : mm_M) (a k : Nat) (x : Int32) : Option mm_M := match M a with
  | some (.inl (c, fs)) => if c = ci ∧ k < fs.length then some (mm_up M a (.inl (c, fs.set k (.int x)))) else none
  | _ => none
def mm_pR (ci : Nat) (M : mm_M) (a k : Nat) (x : Nat) : Option mm_M := match M a with
  | some (.inl (c, fs)) => if c = ci ∧ k < fs.length then some (mm_up M a (.inl (c, fs.set k (.ref x)))) else none
  | _ => none
def mm_ck (ci : Nat) (M : mm_M) (a : Nat) : Option Unit := match M a with
  | some (.inl (c, _)) => if c = ci then some () else none
  | _ => none
def mm_aI (t : Nat) (M : mm_M) (a : Nat) (i : Int32) : Option Int32 := match M a with
  | some (.inr (t', n, .inl f)) => if t' = t ∧ 0 ≤ i.toInt ∧ i.toInt < n then some (f i.toNatClampNeg) else none
  | _ => none
def mm_aR (t : Nat) (M : mm_M) (a : Nat) (i : Int32) : Option Nat := match M a with
  | some (.inr (t', n, .inr f)) => if t' = t ∧ 0 ≤ i.toInt ∧ i.toInt < n then f i.toNatClampNeg else none
  | _ => none
def mm_sI (t : Nat) (M : mm_M) (a : Nat) (i x : Int32) : Option mm_M := match M a with
  | some (.inr (t', n, .inl f)) => if t' = t ∧ 0 ≤ i.toInt ∧ i.toInt < n then some (mm_up M a (.inr (t', n, .inl (upd f i.toNatClampNeg x)))) else none
  | _ => none
def mm_sR (t ci : Nat) (M : mm_M) (a : Nat) (i : Int32) (x : Nat) : Option mm_M := match M a with
  | some (.inr (t', n, .inr f)) => if t' = t ∧ 0 ≤ i.toInt ∧ i.toInt < n ∧ mm_ck ci M x = some () then some (mm_up M a (.inr (t', n, .inr (va_up f i.toNatClampNeg (some x))))) else none
  | _ => none
def mm_ln (M : mm_M) (a : Nat) : Option Int32 := match M a with
  | some (.inr (t, n, _)) => if t < 4 then some (Int32.ofNat n) else none
  | _ => none
/-- System.arraycopy of ints -/
def mm_cp (M : mm_M) (a0 : Nat) (sp : Int32) (a : Nat) (dp n : Int32) : Option mm_M := match M a0, M a with
  | some (.inr (t0, n0, .inl f)), some (.inr (t1, n1, .inl h)) => if t0 = 0 ∧ t1 = 0 ∧ 0 ≤ sp.toInt ∧ 0 ≤ dp.toInt ∧ 0 ≤ n.toInt ∧ sp.toNatClampNeg + n.toNatClampNeg ≤ n0 ∧ dp.toNatClampNeg + n.toNatClampNeg ≤ n1 then some (mm_up M a (.inr (t1, n1, .inl (va_cpy f h sp.toNatClampNeg dp.toNatClampNeg n.toNatClampNeg)))) else none
  | _, _ => none
def mm_dv (x y : Int32) : Option Int32 := if y = 0 then none else some (x / y)
def mm_rm (x y : Int32) : Option Int32 := if y = 0 then none else some (x - x / y * y)
def mm_mx (x y : Int32) : Int32 := if x < y then y else x
def mm_mn (x y : Int32) : Int32 := if y < x then y else x
def mm_ab (x : Int32) : Int32 := if 0 ≤ x then x else 0 - x
def mm_i2c (x : Int32) : Int32 := (x.toUInt32 % 65536).toInt32
-- what a reading says
theorem mm_gI_s {ci : Nat} {M : mm_M} {a k : Nat} {v : Int32} (h : mm_gI ci M a k = some v) : ∃ fs, M a = some (.inl (ci, fs)) ∧ fs[k]? = some (.int v) := by
  unfold mm_gI at h
  split at h
  · rename_i c fs hM
    split at h
    · rename_i hc
      subst hc
      split at h
      · rename_i x hx
        cases h
        exact ⟨fs, hM, hx⟩
      · cases h
    · cases h
  · cases h
theorem mm_gR_s {ci : Nat} {M : mm_M} {a k : Nat} {v : Nat} (h : mm_gR ci M a k = some v) : ∃ fs, M a = some (.inl (ci, fs)) ∧ fs[k]? = some (.ref v) := by
  unfold mm_gR at h
  split at h
  · rename_i c fs hM
    split at h
    · rename_i hc
      subst hc
      split at h
      · rename_i x hx
        cases h
        exact ⟨fs, hM, hx⟩
      · cases h
    · cases h
  · cases h
theorem mm_pI_s {ci : Nat} {M M' : mm_M} {a k : Nat} {v : Int32} (h : mm_pI ci M a k v = some M') : ∃ fs, M a = some (.inl (ci, fs)) ∧ k < fs.length ∧ M' = mm_up M a (.inl (ci, fs.set k (.int v))) := by
  unfold mm_pI at h
  split at h
  · rename_i c fs hM
    split at h
    · rename_i hc
      obtain ⟨rfl, hk⟩ := hc
      cases h
      exact ⟨fs, hM, hk, rfl⟩
    · cases h
  · cases h
theorem mm_pR_s {ci : Nat} {M M' : mm_M} {a k : Nat} {v : Nat} (h : mm_pR ci M a k v = some M') : ∃ fs, M a = some (.inl (ci, fs)) ∧ k < fs.length ∧ M' = mm_up M a (.inl (ci, fs.set k (.ref v))) := by
  unfold mm_pR at h
  split at h
  · rename_i c fs hM
    split at h
    · rename_i hc
      obtain ⟨rfl, hk⟩ := hc
      cases h
      exact ⟨fs, hM, hk, rfl⟩
    · cases h
  · cases h
theorem mm_ck_s {ci : Nat} {M : mm_M} {a : Nat} {u : Unit} (h : mm_ck ci M a = some u) : ∃ fs, M a = some (.inl (ci, fs)) := by
  unfold mm_ck at h
  split at h
  · rename_i c fs hM
    split at h
    · rename_i hc
      subst hc
      exact ⟨fs, hM⟩
    · cases h
  · cases h
theorem mm_inI {i : Int32} {n : Nat} (h0 : 0 ≤ i.toInt) (h1 : i.toInt < n) : vp_in i n := vp_in_iff.mpr ⟨h0, h1⟩
theorem mm_aI_s {t : Nat} {M : mm_M} {a : Nat} {i v : Int32} (h : mm_aI t M a i = some v) : ∃ n f, M a = some (.inr (t, n, .inl f)) ∧ vp_in i n ∧ v = f i.toNatClampNeg := by
  unfold mm_aI at h
  split at h
  · rename_i t' n f hM
    split at h
    · rename_i hc
      obtain ⟨rfl, h0, h1⟩ := hc
      cases h
      exact ⟨n, f, hM, mm_inI h0 h1, rfl⟩
    · cases h
  · cases h
theorem mm_aR_s {t : Nat} {M : mm_M} {a : Nat} {i : Int32} {v : Nat} (h : mm_aR t M a i = some v) : ∃ n f, M a = some (.inr (t, n, .inr f)) ∧ vp_in i n ∧ f i.toNatClampNeg = some v := by
  unfold mm_aR at h
  split at h
  · rename_i t' n f hM
    split at h
    · rename_i hc
      obtain ⟨rfl, h0, h1⟩ := hc
      exact ⟨n, f, hM, mm_inI h0 h1, h⟩
    · cases h
  · cases h
theorem mm_sI_s {t : Nat} {M M' : mm_M} {a : Nat} {i v : Int32} (h : mm_sI t M a i v = some M') : ∃ n f, M a = some (.inr (t, n, .inl f)) ∧ vp_in i n ∧ M' = mm_up M a (.inr (t, n, .inl (upd f i.toNatClampNeg v))) := by
  unfold mm_sI at h
  split at h
  · rename_i t' n f hM
    split at h
    · rename_i hc
      obtain ⟨rfl, h0, h1⟩ := hc
      cases h
      exact ⟨n, f, hM, mm_inI h0 h1, rfl⟩
    · cases h
  · cases h
theorem mm_sR_s {t ci : Nat} {M M' : mm_M} {a : Nat} {i : Int32} {v : Nat} (h : mm_sR t ci M a i v = some M') : ∃ n f fs, M a = some (.inr (t, n, .inr f)) ∧ vp_in i n ∧ M v = some (.inl (ci, fs)) ∧ M' = mm_up M a (.inr (t, n, .inr (va_up f i.toNatClampNeg (some v)))) := by
  unfold mm_sR at h
  split at h
  · rename_i t' n f hM
    split at h
    · rename_i hc
      obtain ⟨rfl, h0, h1, h2⟩ := hc
      cases h
      obtain ⟨fs, hfs⟩ := mm_ck_s h2
      exact ⟨n, f, fs, hM, mm_inI h0 h1, hfs, rfl⟩
    · cases h
  · cases h
theorem mm_ln_s {M : mm_M} {a : Nat} {v : Int32} (h : mm_ln M a = some v) : ∃ t n x, M a = some (.inr (t, n, x)) ∧ t < 4 ∧ v = Int32.ofNat n := by
  unfold mm_ln at h
  split at h
  · rename_i t n x hM
    split at h
    · rename_i hc
      cases h
      exact ⟨t, n, x, hM, hc, rfl⟩
    · cases h
  · cases h
theorem mm_cp_s {M M' : mm_M} {a0 a : Nat} {sp dp n : Int32} (h : mm_cp M a0 sp a dp n = some M') : ∃ n0 f n1 k, M a0 = some (.inr (0, n0, .inl f)) ∧ M a = some (.inr (0, n1, .inl k)) ∧ 0 ≤ sp.toInt ∧ 0 ≤ dp.toInt ∧ 0 ≤ n.toInt ∧ sp.toNatClampNeg + n.toNatClampNeg ≤ n0 ∧ dp.toNatClampNeg + n.toNatClampNeg ≤ n1 ∧ M' = mm_up M a (.inr (0, n1, .inl (va_cpy f k sp.toNatClampNeg dp.toNatClampNeg n.toNatClampNeg))) := by
  unfold mm_cp at h
  split at h
  · rename_i t0 n0 f t1 n1 k h0 h1
    split at h
    · rename_i hc
      obtain ⟨rfl, rfl, c1, c2, c3, c4, c5⟩ := hc
      cases h
      exact ⟨n0, f, n1, k, h0, h1, c1, c2, c3, c4, c5, rfl⟩
    · cases h
  · cases h
theorem mm_bd {α β : Type} {x : Option α} {k : α → Option β} {r : β} (h : Option.bind x k = some r) : ∃ v, x = some v ∧ k v = some r := by
  cases x with
  | none => cases h
  | some v => exact ⟨v, rfl, h⟩
-- loops
def mm_it {σ ε : Type} (body : σ → Option (σ ⊕ ε)) : Nat → σ → Option ε
  | 0, _ => none
  | n + 1, s => match body s with
    | none => none
    | some (.inl s') => mm_it body n s'
    | some (.inr e) => some e
def mm_fu : Nat := 10000
theorem mm_itW {σ ε : Type} {body : σ → Option (σ ⊕ ε)} {Hd : σ → Prop} {e1 : ε} (hs : ∀ s y, body s = some y → (∀ s', y = .inl s' → Hd s') → (∀ e, y = .inr e → e = e1) → Hd s) : ∀ n s, mm_it body n s = some e1 → Hd s := by
  intro n
  induction n with
  | zero => intro s h; cases h
  | succ n ih =>
    intro s h
    cases hb : body s with
    | none => simp [mm_it, hb] at h
    | some y =>
      refine hs s y hb (fun s' hy => ?_) (fun e hy => ?_)
      · subst hy
        simp only [mm_it, hb] at h
        exact ih s' h
      · subst hy
        simp only [mm_it, hb] at h
        exact Option.some.inj h
end
section
-- sites: what the words say of an instruction of a method of class own
def mm_FS (own : String) (idx ci k : Nat) : Prop := ∃ (Cn : String) (T : u_T) (N : Nat), mm_cl[ci]? = some (Cn, T, N) ∧ k < N ∧ (∀ w ∈ u_ws Cn T N, w ∈ mm_gw) ∧ Cond.fieldLink own idx (T k).1 (T k).2.1 (T k).2.2.1 ∈ mm_gw
def mm_PS (own : String) (idx ci k : Nat) (fin : Bool) (ty : FieldType) : Prop := ∃ (Cn : String) (T : u_T) (N : Nat) (ty0 : Nat → FieldType), mm_cl[ci]? = some (Cn, T, N) ∧ k < N ∧ (∀ w ∈ u_ws Cn T N, w ∈ mm_gw) ∧ Cond.fieldLink own idx (T k).1 (T k).2.1 (T k).2.2.1 ∈ mm_gw ∧ (∀ k, k < N → parseFieldDescriptor (T k).2.2.1 = some (ty0 k)) ∧ (∀ a, a < N → ∀ b, b < N → a ≠ b → (T a).2.1 ≠ (T b).2.1) ∧ (T k).2.2.2 = fin ∧ parseFieldDescriptor (T k).2.2.1 = some ty ∧ (fin = true → (T k).1 = own)
def mm_VS (own : String) (idx : Nat) (ci : Nat) (y : MethodName) (bytes : ByteArray) (maxL : Nat) (ret : Option FieldType) (n : Nat) : Prop := (∃ (T : u_T) (N : Nat), mm_cl[ci]? = some (y.cls, T, N)) ∧ Cond.methodLink own idx y ∈ mm_gw ∧ Cond.instanceMethod y ∈ mm_gw ∧ Cond.selects y.cls y y ∈ lw_tbl ∧ goodWord (Cond.selects y.cls y y) = true ∧ Cond.initialized y.cls ∈ mm_gw ∧ Cond.code y bytes maxL ret ∈ mm_gw ∧ (y.cls ≠ "java/lang/invoke/MethodHandle" ∧ y.cls ≠ "java/lang/invoke/VarHandle" ∧ (parseMethodDescriptor y.desc).map (fun d => d.parameters.length) = some n)
def mm_SS (own : String) (idx : Nat) (y : MethodName) (bytes : ByteArray) (maxL : Nat) (ret : Option FieldType) (n : Nat) : Prop := Cond.methodLink own idx y ∈ mm_gw ∧ Cond.static y ∈ mm_gw ∧ Cond.initialized y.cls ∈ mm_gw ∧ Cond.code y bytes maxL ret ∈ mm_gw ∧ (y.cls ≠ "java/lang/invoke/MethodHandle" ∧ y.cls ≠ "java/lang/invoke/VarHandle" ∧ (parseMethodDescriptor y.desc).map (fun d => d.parameters.length) = some n)
/-- a nest mate's static method -/
def mm_SN (own : String) (idx : Nat) (y : MethodName) (host : String) (bytes : ByteArray) (maxL : Nat) (ret : Option FieldType) (n : Nat) : Prop := Cond.static y ∈ mm_gw ∧ Cond.initialized y.cls ∈ mm_gw ∧ Cond.code y bytes maxL ret ∈ mm_gw ∧ (y.cls ≠ "java/lang/invoke/MethodHandle" ∧ y.cls ≠ "java/lang/invoke/VarHandle" ∧ (parseMethodDescriptor y.desc).map (fun d => d.parameters.length) = some n)
def mm_IS (own : String) (idx : Nat) (y : MethodName) (bytes : ByteArray) (maxL : Nat) (n : Nat) : Prop := Cond.methodLink own idx y ∈ mm_gw ∧ Cond.instanceMethod y ∈ mm_gw ∧ y.name = "<init>" ∧ Cond.initialized y.cls ∈ mm_gw ∧ Cond.code y bytes maxL none ∈ mm_gw ∧ (y.cls ≠ "java/lang/invoke/MethodHandle" ∧ y.cls ≠ "java/lang/invoke/VarHandle" ∧ (parseMethodDescriptor y.desc).map (fun d => d.parameters.length) = some n)
def mm_IN (own : String) (idx : Nat) (y : MethodName) (host : String) (bytes : ByteArray) (maxL : Nat) (n : Nat) : Prop := Cond.instanceMethod y ∈ mm_gw ∧ y.name = "<init>" ∧ Cond.initialized y.cls ∈ mm_gw ∧ Cond.code y bytes maxL none ∈ mm_gw ∧ (y.cls ≠ "java/lang/invoke/MethodHandle" ∧ y.cls ≠ "java/lang/invoke/VarHandle" ∧ (parseMethodDescriptor y.desc).map (fun d => d.parameters.length) = some n)
/-- what a method begins with -/
def mm_B (g : mm_G) (A : Nat → Prop) (M : mm_M) (U : State) : Prop := mm_R g A M U.heap ∧ mm_K g U
theorem mm_blind {g : mm_G} {A : Nat → Prop} {M : mm_M} {as : List Value} : FrameBlind (va_Pc as (mm_B g A M)) := fun a U f mk q => ⟨q.1, q.2.1, mm_K.same (U := U.calling f mk a) rfl q.2.2⟩
theorem mm_blindZ {g : mm_G} {A : Nat → Prop} {M : mm_M} {as : List Value} {sz : Nat} : FrameBlind (va_Pc as (fun U => U.heap.size = sz ∧ mm_B g A M U)) := fun a U f mk q => ⟨q.1, q.2.1, q.2.2.1, mm_K.same (U := U.calling f mk a) rfl q.2.2.2⟩
section MMR
variable {p : Program} {l : Launch} {e : Env} {R : Room} {s : State} {m : MethodId} {args : Array Value} {below : List Frame} {meth : Method} {c : Code} {H : Heap} {locs : List Loc} {cells slots : Nat} {Q : State → Prop}
variable {cc : ByteArray} {nL pc : Nat} {ls : Array Slot} {rest : List Value} {g : mm_G} {A : Nat → Prop} {M M' : mm_M} {own : String} {a : Nat} {idx ci k t : Nat}
theorem mm_getI (C : mm_C g own cc nL p s m args meth c) (hR : mm_R g A M H) (hs : mm_FS own idx ci k) {v : Int32} (hv : mm_gI ci M a k = some v) (hdg : decode cc pc = .ok (.getfield idx, 3))
    (kk : W p l e R s m args below meth c H locs cells slots Q (F0 m (pc + 3) ls (.int v :: rest))) : W p l e R s m args below meth c H locs cells slots Q (F0 m pc ls (.ref a :: rest)) := by
  obtain ⟨hx, hb, hml, hown, hts, hK, hlk⟩ := C
  obtain ⟨Cn, T, N, hc, hk, hin, hln⟩ := hs
  obtain ⟨fs, hM, hf⟩ := mm_gI_s hv
  obtain ⟨L, hL, hP, hD⟩ := hR
  obtain ⟨-, q0, hq⟩ := mm_at (g := g) hL hM
  exact va_get hx hb hts hin hown hK.1 hP q0 hq hc k hk (hts _ hln) (fun _ h => h) hf hdg kk
theorem mm_getR (C : mm_C g own cc nL p s m args meth c) (hR : mm_R g A M H) (hs : mm_FS own idx ci k) {v : Nat} (hv : mm_gR ci M a k = some v) (hdg : decode cc pc = .ok (.getfield idx, 3))
    (kk : W p l e R s m args below meth c H locs cells slots Q (F0 m (pc + 3) ls (.ref v :: rest))) : W p l e R s m args below meth c H locs cells slots Q (F0 m pc ls (.ref a :: rest)) := by
  obtain ⟨hx, hb, hml, hown, hts, hK, hlk⟩ := C
  obtain ⟨Cn, T, N, hc, hk, hin, hln⟩ := hs
  obtain ⟨fs, hM, hf⟩ := mm_gR_s hv
  obtain ⟨L, hL, hP, hD⟩ := hR
  obtain ⟨-, q0, hq⟩ := mm_at (g := g) hL hM
  exact va_get hx hb hts hin hown hK.1 hP q0 hq hc k hk (hts _ hln) (fun _ h => h) hf hdg kk
theorem mm_putI (C : mm_C g own cc nL p s m args meth c) (hR : mm_R g A M H) (hS : va_S A s.heap H locs) (hs : mm_PS own idx ci k false .int) {v : Int32} (hv : mm_pI ci M a k v = some M') (hdg : decode cc pc = .ok (.putfield idx, 3))
    (kk : ∀ (H' : Heap) (locs' : List Loc), mm_R g A M' H' → va_S A s.heap H' locs' → W p l e R s m args below meth c H' locs' cells slots Q (F0 m (pc + 3) ls rest)) : W p l e R s m args below meth c H locs cells slots Q (F0 m pc ls (.int v :: .ref a :: rest)) := by
  obtain ⟨hx, hb, hml, hown, hts, hK, hlk⟩ := C
  obtain ⟨Cn, T, N, ty0, hc, hk, hin, hln, hty, hnm, hfin, hd, -⟩ := hs
  obtain ⟨fs, hM, hlt, rfl⟩ := mm_pI_s hv
  obtain ⟨L, hL, hP, hD⟩ := hR
  obtain ⟨-, q0, hq⟩ := mm_at (g := g) hL hM
  refine va_put (ty := .int) (v := .int v) hx hb hts hin ty0 hty hnm hown hK.1 hP hD hS q0 hq hc k hk (hts _ hln) (fun _ h => h) hfin hd rfl rfl hlt hdg (fun H' locs' hP' hD' hS' => ?_)
  exact kk H' locs' (mm_R_set (o' := .inl (ci, fs.set k (.int v))) hL hM hD hq hP' hD') hS'
theorem mm_putR (C : mm_C g own cc nL p s m args meth c) (hR : mm_R g A M H) (hS : va_S A s.heap H locs) (hin2 : meth.name = "<init>") {ty : FieldType} (hs : mm_PS own idx ci k true ty) (hty1 : ∀ v : Nat, narrow ty (.ref v) = .ref v ∧ fits ty (.ref v) = true) {v : Nat} (hv : mm_pR ci M a k v = some M') (hdg : decode cc pc = .ok (.putfield idx, 3))
    (kk : ∀ (H' : Heap) (locs' : List Loc), mm_R g A M' H' → va_S A s.heap H' locs' → W p l e R s m args below meth c H' locs' cells slots Q (F0 m (pc + 3) ls rest)) : W p l e R s m args below meth c H locs cells slots Q (F0 m pc ls (.ref v :: .ref a :: rest)) := by
  obtain ⟨hx, hb, hml, hown, hts, hK, hlk⟩ := C
  obtain ⟨Cn, T, N, ty0, hc, hk, hin, hln, hty, hnm, hfin, hd, hdc⟩ := hs
  obtain ⟨fs, hM, hlt, rfl⟩ := mm_pR_s hv
  obtain ⟨L, hL, hP, hD⟩ := hR
  obtain ⟨-, q0, hq⟩ := mm_at (g := g) hL hM
  refine va_putF (ty := ty) (v := .ref v) hx hb hts hin ty0 hty hnm hown hK.1 hP hD hS q0 hq hc k hk (hts _ hln) (fun _ h => h) hfin hin2 (hdc rfl) hd (hty1 v).1 (hty1 v).2 hlt hdg (fun H' locs' hP' hD' hS' => ?_)
  exact kk H' locs' (mm_R_set (o' := .inl (ci, fs.set k (.ref v))) hL hM hD hq hP' hD') hS'
theorem mm_iald (C : mm_C g own cc nL p s m args meth c) (hR : mm_R g A M H) {i v : Int32} (hv : mm_aI 0 M a i = some v) (hdg : decode cc pc = .ok (.iaload, 1))
    (kk : W p l e R s m args below meth c H locs cells slots Q (F0 m (pc + 1) ls (.int v :: rest))) : W p l e R s m args below meth c H locs cells slots Q (F0 m pc ls (.int i :: .ref a :: rest)) := by
  obtain ⟨hx, hb, hml, hown, hts, hK, hlk⟩ := C
  obtain ⟨n, f, hM, hin, rfl⟩ := mm_aI_s hv
  obtain ⟨L, hL, hP, hD⟩ := hR
  obtain ⟨-, q0, hq⟩ := mm_at (g := g) hL hM
  exact va_iald hx hb hK.1 hP q0 0 hq rfl hin hdg kk
theorem mm_cald (C : mm_C g own cc nL p s m args meth c) (hR : mm_R g A M H) {i v : Int32} (hv : mm_aI 1 M a i = some v) (hdg : decode cc pc = .ok (.caload, 1))
    (kk : W p l e R s m args below meth c H locs cells slots Q (F0 m (pc + 1) ls (.int v :: rest))) : W p l e R s m args below meth c H locs cells slots Q (F0 m pc ls (.int i :: .ref a :: rest)) := by
  obtain ⟨hx, hb, hml, hown, hts, hK, hlk⟩ := C
  obtain ⟨n, f, hM, hin, rfl⟩ := mm_aI_s hv
  obtain ⟨L, hL, hP, hD⟩ := hR
  obtain ⟨-, q0, hq⟩ := mm_at (g := g) hL hM
  exact va_cald hx hb hK.1 hP q0 1 hq rfl hin hdg kk
theorem mm_aald (C : mm_C g own cc nL p s m args meth c) (hR : mm_R g A M H) {i : Int32} {v : Nat} {Cn : String} (ht : mm_ty g.2 = mm_ty g.2 → (mm_ty g.2)[t]? = some (g.2 t, .object Cn)) (hv : mm_aR t M a i = some v) (hdg : decode cc pc = .ok (.aaload, 1))
    (kk : W p l e R s m args below meth c H locs cells slots Q (F0 m (pc + 1) ls (.ref v :: rest))) : W p l e R s m args below meth c H locs cells slots Q (F0 m pc ls (.int i :: .ref a :: rest)) := by
  obtain ⟨hx, hb, hml, hown, hts, hK, hlk⟩ := C
  obtain ⟨n, f, hM, hin, hf⟩ := mm_aR_s hv
  obtain ⟨L, hL, hP, hD⟩ := hR
  obtain ⟨-, q0, hq⟩ := mm_at (g := g) hL hM
  refine va_aldq (C := Cn) hx hb hK.1 hP q0 t hq (ht rfl) hin hdg ?_
  rw [hf]
  exact kk
theorem mm_iast (C : mm_C g own cc nL p s m args meth c) (hR : mm_R g A M H) (hS : va_S A s.heap H locs) {i v : Int32} (hv : mm_sI 0 M a i v = some M') (hdg : decode cc pc = .ok (.iastore, 1))
    (kk : ∀ (H' : Heap) (locs' : List Loc), mm_R g A M' H' → va_S A s.heap H' locs' → W p l e R s m args below meth c H' locs' cells slots Q (F0 m (pc + 1) ls rest)) : W p l e R s m args below meth c H locs cells slots Q (F0 m pc ls (.int v :: .int i :: .ref a :: rest)) := by
  obtain ⟨hx, hb, hml, hown, hts, hK, hlk⟩ := C
  obtain ⟨n, f, hM, hin, rfl⟩ := mm_sI_s hv
  obtain ⟨L, hL, hP, hD⟩ := hR
  obtain ⟨-, q0, hq⟩ := mm_at (g := g) hL hM
  refine va_iast hx hb hK.1 hP hD hS q0 0 hq rfl hin hdg (fun H' locs' hP' hD' hS' => ?_)
  exact kk H' locs' (mm_R_set (o' := .inr (0, n, .inl (upd f i.toNatClampNeg v))) hL hM hD hq hP' hD') hS'
theorem mm_cast (C : mm_C g own cc nL p s m args meth c) (hR : mm_R g A M H) (hS : va_S A s.heap H locs) {i v : Int32} (hv : mm_sI 1 M a i (vp_nar .char v) = some M') (hdg : decode cc pc = .ok (.castore, 1))
    (kk : ∀ (H' : Heap) (locs' : List Loc), mm_R g A M' H' → va_S A s.heap H' locs' → W p l e R s m args below meth c H' locs' cells slots Q (F0 m (pc + 1) ls rest)) : W p l e R s m args below meth c H locs cells slots Q (F0 m pc ls (.int v :: .int i :: .ref a :: rest)) := by
  obtain ⟨hx, hb, hml, hown, hts, hK, hlk⟩ := C
  obtain ⟨n, f, hM, hin, rfl⟩ := mm_sI_s hv
  obtain ⟨L, hL, hP, hD⟩ := hR
  obtain ⟨-, q0, hq⟩ := mm_at (g := g) hL hM
  refine va_cast hx hb hK.1 hP hD hS q0 1 hq rfl hin hdg (fun H' locs' hP' hD' hS' => ?_)
  exact kk H' locs' (mm_R_set (o' := .inr (1, n, .inl (upd f i.toNatClampNeg (vp_nar .char v)))) hL hM hD hq hP' hD') hS'
theorem mm_aast (C : mm_C g own cc nL p s m args meth c) (hR : mm_R g A M H) (hS : va_S A s.heap H locs) {i : Int32} {v : Nat} {r : vw_C} (hc : mm_cl[ci]? = some r) (ht : mm_ty g.2 = mm_ty g.2 → (mm_ty g.2)[t]? = some (g.2 t, .object r.1)) (hv : mm_sR t ci M a i v = some M') (hdg : decode cc pc = .ok (.aastore, 1))
    (kk : ∀ (H' : Heap) (locs' : List Loc), mm_R g A M' H' → va_S A s.heap H' locs' → W p l e R s m args below meth c H' locs' cells slots Q (F0 m (pc + 1) ls rest)) : W p l e R s m args below meth c H locs cells slots Q (F0 m pc ls (.ref v :: .int i :: .ref a :: rest)) := by
  obtain ⟨hx, hb, hml, hown, hts, hK, hlk⟩ := C
  obtain ⟨n, f, fs, hM, hin, hV, rfl⟩ := mm_sR_s hv
  obtain ⟨L, hL, hP, hD⟩ := hR
  obtain ⟨-, q0, hq⟩ := mm_at (g := g) hL hM
  obtain ⟨-, q1, hq1⟩ := mm_at (g := g) hL hV
  refine va_astq hx hb hK.1 hP hD hS q0 t q1 ci hq (ht rfl) hq1 hc hin hdg (fun H' locs' hP' hD' hS' => ?_)
  exact kk H' locs' (mm_R_set (o' := .inr (t, n, .inr (va_up f i.toNatClampNeg (some v)))) hL hM hD hq hP' hD') hS'
theorem mm_alen (C : mm_C g own cc nL p s m args meth c) (hR : mm_R g A M H) {v : Int32} (hv : mm_ln M a = some v) (hdg : decode cc pc = .ok (.arraylength, 1))
    (kk : W p l e R s m args below meth c H locs cells slots Q (F0 m (pc + 1) ls (.int v :: rest))) : W p l e R s m args below meth c H locs cells slots Q (F0 m pc ls (.ref a :: rest)) := by
  obtain ⟨hx, hb, hml, hown, hts, hK, hlk⟩ := C
  obtain ⟨t, n, x, hM, ht, rfl⟩ := mm_ln_s hv
  obtain ⟨L, hL, hP, hD⟩ := hR
  obtain ⟨-, q0, hq⟩ := mm_at (g := g) hL hM
  obtain ⟨ty, hty⟩ : ∃ ty, (mm_ty g.2)[t]? = some (g.2 t, ty) := by
    match t, ht with
    | 0, _ => exact ⟨_, rfl⟩
    | 1, _ => exact ⟨_, rfl⟩
    | 2, _ => exact ⟨_, rfl⟩
    | 3, _ => exact ⟨_, rfl⟩
  cases x with
  | inl f => exact va_alen hx hb hK.1 hP q0 t hq hty rfl hdg kk
  | inr f => exact va_alen hx hb hK.1 hP q0 t hq hty rfl hdg kk
theorem mm_copy (C : mm_C g own cc nL p s m args meth c) (hR : mm_R g A M H) (hS : va_S A s.heap H locs) (hsz : ls.size = nL) (h1 : Cond.methodLink own idx arraycopyName ∈ mm_gw) (h2 : Cond.native arraycopyName ∈ mm_gw) (h3 : Cond.static arraycopyName ∈ mm_gw) (h4 : Cond.initialized "java/lang/System" ∈ mm_gw)
    {a0 : Nat} {sp dp n : Int32} (hv : mm_cp M a0 sp a dp n = some M') (hframes : 1 ≤ R.frames) (hlocals : (rest.map fun v => v.category).sum + (nativeFrameWords "java/lang/System" "arraycopy" 5 + 11) ≤ R.locals) (hdg : decode cc pc = .ok (.invokestatic idx, 3))
    (kk : ∀ (H' : Heap) (locs' : List Loc), mm_R g A M' H' → va_S A s.heap H' locs' → W p l e R s m args below meth c H' locs' cells slots Q (F0 m (pc + 3) ls rest)) : W p l e R s m args below meth c H locs cells slots Q (F0 m pc ls (.int n :: .int dp :: .ref a :: .int sp :: .ref a0 :: rest)) := by
  obtain ⟨hx, hb, hml, hown, hts, hK, hlk⟩ := C
  obtain ⟨n0, f, n1, k, hM0, hM, c1, c2, c3, c4, c5, rfl⟩ := mm_cp_s hv
  obtain ⟨L, hL, hP, hD⟩ := hR
  obtain ⟨-, q0, hq0⟩ := mm_at (g := g) hL hM0
  obtain ⟨-, q1, hq1⟩ := mm_at (g := g) hL hM
  have nn : ∀ x : Int32, 0 ≤ x.toInt → ¬ x < 0 := fun x h z => by
    have := Int32.lt_iff_toInt_lt.mp z
    rw [show (0 : Int32).toInt = 0 from rfl] at this
    omega
  refine va_copyi hx hb (by rw [hml, hsz]) hown (hts _ h1) (hts _ h2) (hts _ h3) (hts _ h4) hK.1 hP hD hS q0 q1 0 0 hq0 hq1 rfl rfl rfl (nn _ c1) (nn _ c2) (nn _ c3) c4 c5 (fun i _ => rfl) hframes hlocals hdg (fun H' locs' hP' hD' hS' => ?_)
  exact kk H' locs' (mm_R_set (o' := .inr (0, n1, .inl (va_cpy f k sp.toNatClampNeg dp.toNatClampNeg n.toNatClampNeg))) hL hM hD hq1 hP' hD') hS'
-- new cells, at the heap's end
theorem mm_new (C : mm_C g own cc nL p s m args meth c) (hR : mm_R g A M H) (hS : va_S A s.heap H locs) (hA : ∀ q, s.heap.size ≤ q → A q) {sz : Nat} (hz : H.size = sz) {Cn : String} {T : u_T} {N : Nat} (ty0 : Nat → FieldType) (hc : mm_cl[ci]? = some (Cn, T, N)) (hin : ∀ w ∈ u_ws Cn T N, w ∈ mm_gw) (hty : ∀ k, k < N → parseFieldDescriptor (T k).2.2.1 = some (ty0 k))
    (h1 : Cond.classLink own idx Cn ∈ mm_gw) (h2 : Cond.instantiable Cn N ∈ mm_gw) (h3 : Cond.initialized Cn ∈ mm_gw) {fs : List Value} (hfs : ∀ j, j < N → defaultValue (ty0 j) = vp_V fs j) (hcells : cells + 1 ≤ R.cells) (hslots : slots + N ≤ R.slots) (hdg : decode cc pc = .ok (.new idx, 3))
    (kk : ∀ (H' : Heap), M sz = none → H'.size = sz + 1 → mm_R g A (mm_up M sz (.inl (ci, fs))) H' → va_S A s.heap H' locs → W p l e R s m args below meth c H' locs (cells + 1) (slots + N) Q (F0 m (pc + 3) ls (.ref sz :: rest))) : W p l e R s m args below meth c H locs cells slots Q (F0 m pc ls rest) := by
  obtain ⟨hx, hb, hml, hown, hts, hK, hlk⟩ := C
  obtain ⟨L, hL, hP, hD⟩ := hR
  have hKn := hK.1.1 ci _ hc
  refine W.newcK hx hb hown (hts _ h1) (hts _ h2) (hts _ h3) rfl hdg hcells hslots hKn.2.1 hz fun H1 kC hkC e1 z1 o1 => ?_
  have hk : ∀ (k : Nat) (x : Nat × va_E), ([] ++ va_pl L (mm_pf g M))[k]? = some x → H1[x.1]? = H[x.1]? := fun k x hx => o1 x.1 (by rw [← hz]; exact (hP k x hx).lt)
  have hS' : va_S A s.heap H1 locs := ⟨Nat.le_trans hS.1 (by omega), fun x h1 h2 => (o1 x (by rw [← hz]; exact Nat.lt_of_lt_of_le h1 hS.1)).trans (hS.2.1 x h1 h2), hS.2.2⟩
  have hP1 : va_P g.1 mm_cl (([] ++ va_pl L (mm_pf g M)) ++ [(sz, mm_e g (.inl (ci, fs)))]) H1 := (hP.kept hk).app (fun k x hx => by
    have hzk : k < 1 := (List.getElem?_eq_some_iff.mp hx).1
    rw [show k = 0 by omega] at hx
    cases hx
    exact ⟨_, hc, (u_born ty0 hts hin hKn hkC e1 hty).to hfs⟩)
  obtain ⟨hn, hR'⟩ := mm_R_new (o := .inl (ci, fs)) hL hP1 (hD.push hP hz.symm (hA _ (by rw [← hz]; exact hS.1)))
  exact kk H1 hn z1 hR' hS'
theorem mm_newI (C : mm_C g own cc nL p s m args meth c) (hR : mm_R g A M H) (hS : va_S A s.heap H locs) (hA : ∀ q, s.heap.size ≤ q → A q) {sz : Nat} (hz : H.size = sz) {atype : ArrayType} {ty : FieldType} (hty : newarray.typeOf atype = ty) (h1 : Cond.arrayClass ty ∈ mm_gw) (ht : ∀ cA, s.vm.findClass ("[" ++ ty.toString) = some cA → cA = g.2 t) {n : Int32} {N' : Nat} (hd : defaultValue ty = .int 0)
    (hn : ¬ n < 0) (hN : n.toNatClampNeg = N') (hbytes : N' * componentBytes ty ≤ 536870912) (hcells : cells + 1 ≤ R.cells) (hslots : slots + N' ≤ R.slots) (hdg : decode cc pc = .ok (.newarray atype, 2))
    (kk : ∀ (H' : Heap), M sz = none → H'.size = sz + 1 → mm_R g A (mm_up M sz (.inr (t, N', .inl (fun _ => 0)))) H' → va_S A s.heap H' locs → W p l e R s m args below meth c H' locs (cells + 1) (slots + N') Q (F0 m (pc + 2) ls (.ref sz :: rest))) : W p l e R s m args below meth c H locs cells slots Q (F0 m pc ls (.int n :: rest)) := by
  obtain ⟨hx, hb, hml, hown, hts, hK, hlk⟩ := C
  obtain ⟨L, hL, hP, hD⟩ := hR
  subst hty
  refine va_newaK hx hb (hts _ h1) rfl hdg rfl hn hN hbytes hcells hslots hz fun H1 cA e1 z1 o1 hAr hNm => ?_
  have hcA := ht cA hNm
  subst hcA
  have hk : ∀ (k : Nat) (x : Nat × va_E), ([] ++ va_pl L (mm_pf g M))[k]? = some x → H1[x.1]? = H[x.1]? := fun k x hx => o1 x.1 (by rw [← hz]; exact (hP k x hx).lt)
  have hS' : va_S A s.heap H1 locs := ⟨Nat.le_trans hS.1 (by omega), fun x h1 h2 => (o1 x (by rw [← hz]; exact Nat.lt_of_lt_of_le h1 hS.1)).trans (hS.2.1 x h1 h2), hS.2.2⟩
  have hP1 : va_P g.1 mm_cl (([] ++ va_pl L (mm_pf g M)) ++ [(sz, mm_e g (.inr (t, N', .inl (fun _ => 0))))]) H1 := (hP.kept hk).app (fun k x hx => by
    have hzk : k < 1 := (List.getElem?_eq_some_iff.mp hx).1
    rw [show k = 0 by omega] at hx
    cases hx
    show H1[sz]? = some (vp_cell _ _)
    rw [vp_cell_i, e1, hd])
  obtain ⟨hn, hR'⟩ := mm_R_new (o := .inr (t, N', .inl (fun _ => 0))) hL hP1 (hD.push hP hz.symm (hA _ (by rw [← hz]; exact hS.1)))
  exact kk H1 hn z1 hR' hS'
theorem mm_newq (C : mm_C g own cc nL p s m args meth c) (hR : mm_R g A M H) (hS : va_S A s.heap H locs) (hA : ∀ q, s.heap.size ≤ q → A q) {sz : Nat} (hz : H.size = sz) {Cn : String} (hcl : Cond.classLink own idx Cn ∈ mm_gw) (hover : va_AO Cn s) (ht : ∀ cA, s.vm.findClass ("[" ++ (FieldType.object Cn).toString) = some cA → cA = g.2 t) {n : Int32} {N' : Nat}
    (hn : ¬ n < 0) (hN : n.toNatClampNeg = N') (hbytes : N' * 4 ≤ 536870912) (hcells : cells + 1 ≤ R.cells) (hslots : slots + N' ≤ R.slots) (hdg : decode cc pc = .ok (.anewarray idx, 3))
    (kk : ∀ (H' : Heap), M sz = none → H'.size = sz + 1 → mm_R g A (mm_up M sz (.inr (t, N', .inr (fun _ => none)))) H' → va_S A s.heap H' locs → W p l e R s m args below meth c H' locs (cells + 1) (slots + N') Q (F0 m (pc + 3) ls (.ref sz :: rest))) : W p l e R s m args below meth c H locs cells slots Q (F0 m pc ls (.int n :: rest)) := by
  obtain ⟨hx, hb, hml, hown, hts, hK, hlk⟩ := C
  obtain ⟨L, hL, hP, hD⟩ := hR
  subst hN
  subst hz
  refine W.anew hx hb hown (hts _ hcl) (va_AO.use hover) rfl hdg rfl hn hbytes hcells hslots fun cA kA comp f1 f2 f3 f4 => ?_
  have hcA := ht cA f1
  subst hcA
  generalize hH1 : H.push ({ cls := g.2 t, slots := Array.replicate n.toNatClampNeg .null, vm := .none } : Cell) = H1
  have z1 : H1.size = H.size + 1 := by rw [← hH1, Array.size_push]
  have e1 : H1[H.size]? = some (arrV (g.2 t) n.toNatClampNeg (fun _ => .null)) := by rw [← hH1, Array.getElem?_push_size, ← arrV_new]
  have o1 : ∀ q : Nat, q < H.size → H1[q]? = H[q]? := fun q hq => by rw [← hH1, Array.getElem?_push, if_neg (Nat.ne_of_lt hq)]
  have hk : ∀ (k : Nat) (x : Nat × va_E), ([] ++ va_pl L (mm_pf g M))[k]? = some x → H1[x.1]? = H[x.1]? := fun k x hx => o1 x.1 ((hP k x hx).lt)
  have hS' : va_S A s.heap H1 locs := ⟨Nat.le_trans hS.1 (by omega), fun x h1 h2 => (o1 x (Nat.lt_of_lt_of_le h1 hS.1)).trans (hS.2.1 x h1 h2), hS.2.2⟩
  have hP1 : va_P g.1 mm_cl (([] ++ va_pl L (mm_pf g M)) ++ [(H.size, mm_e g (.inr (t, n.toNatClampNeg, .inr (fun _ => none))))]) H1 := (hP.kept hk).app (fun k x hx => by
    have hzk : k < 1 := (List.getElem?_eq_some_iff.mp hx).1
    rw [show k = 0 by omega] at hx
    cases hx
    show H1[H.size]? = some (vp_cell _ _)
    rw [vp_cell_q]
    exact e1)
  obtain ⟨hn, hR'⟩ := mm_R_new (o := .inr (t, n.toNatClampNeg, .inr (fun _ => none))) hL hP1 (hD.push hP rfl (hA _ hS.1))
  exact kk H1 hn z1 hR' hS'
-- calls
theorem mm_recv (hK : mm_K g s) (hR : mm_R g A M H) {u : Unit} (hk : mm_ck ci M a = some u) {q : vw_C} (hc : mm_cl[ci]? = some q) : ∃ cell : Cell, H[a]? = some cell ∧ cell.vm.isStatics = false ∧ s.vm.findClass q.1 = some cell.cls := by
  obtain ⟨fs, hM⟩ := mm_ck_s hk
  obtain ⟨L, hL, hP, hD⟩ := hR
  obtain ⟨-, q0, hq⟩ := mm_at (g := g) hL hM
  exact va_recv hK.1 hP hc hq
theorem mm_pre (hK : mm_K g s) (hR : mm_R g A M H) (as : List Value) : ∀ U : State, U.heap = H → s.WarmedH U.vm → va_Pc as (mm_B g A M) as.toArray U := fun U hU hW => ⟨rfl, by rw [hU]; exact hR, hK.warm hW⟩
theorem mm_preZ (hK : mm_K g s) (hR : mm_R g A M H) {sz : Nat} (hz : H.size = sz) (as : List Value) : ∀ U : State, U.heap = H → s.WarmedH U.vm → va_Pc as (fun U => U.heap.size = sz ∧ mm_B g A M U) as.toArray U := fun U hU hW => ⟨rfl, by rw [hU]; exact hz, by rw [hU]; exact hR, hK.warm hW⟩
variable {y : MethodName} {bytes : ByteArray} {maxL n : Nat} {ret : Option FieldType} {rm : Room} {As : List Value} {M2 : mm_M}
def mm_Ti (g : mm_G) (A : Nat → Prop) (r : Int32) (M2 : mm_M) : Array Value → State → Outcome → State → Prop := va_Qi (fun (r' : Int32) (_ : Unit) => r' = r) (fun _ t => mm_R g A M2 t.heap) A
def mm_Tv (g : mm_G) (A : Nat → Prop) (M2 : mm_M) : Array Value → State → Outcome → State → Prop := va_Qv (fun (_ : Unit) => True) (fun _ t => mm_R g A M2 t.heap) A
def mm_Tz (g : mm_G) (A : Nat → Prop) (M2 : mm_M) (sz : Nat) : Array Value → State → Outcome → State → Prop := va_Qv (fun (_ : Unit) => True) (fun _ t => t.heap.size = sz ∧ mm_R g A M2 t.heap) A
/-- a reference or null -/
def mm_Tr (g : mm_G) (A : Nat → Prop) (r : Option Nat) (M2 : mm_M) : Array Value → State → Outcome → State → Prop := fun _ st oc t => oc = .returned (some (va_rf r)) ∧ mm_R g A M2 t.heap ∧ va_F A st t
abbrev mm_ws (y : MethodName) (bytes : ByteArray) (maxL : Nat) (ret : Option FieldType) : List Cond := .code y bytes maxL ret :: mm_gw
def mm_rmok (rm R : Room) (maxL : Nat) : Prop := rm.cells = 0 ∧ rm.slots = 0 ∧ rm.frames + 1 ≤ R.frames ∧ 8 + (maxL + 11) + rm.locals ≤ R.locals
theorem mm_cwV (C : mm_C g own cc nL p s m args meth c) (vs : mm_VS own idx ci y bytes maxL ret n) (hrm : mm_rmok rm R maxL) : CallW R s args own y.cls idx y bytes maxL ret (mm_ws y bytes maxL ret) rm 0 0 n := by
  obtain ⟨hx, hb, hml, hown, hts, hK, hlk⟩ := C
  obtain ⟨-, h1, h2, h3, h3', h4, h5, h6⟩ := vs
  refine ⟨callB_of n hts ?_ rfl hrm.1 hrm.2.1 (hts _ h4) (hts _ h1) h6 ⟨hrm.2.2.1, hrm.2.2.2⟩, hts _ h2, hts _ (List.mem_filter.mpr ⟨h3, h3'⟩)⟩
  intro w hw
  rcases List.mem_cons.mp hw with rfl | h
  · exact mm_good _ h5
  · exact mm_good _ h
theorem mm_cwS (C : mm_C g own cc nL p s m args meth c) (vs : mm_SS own idx y bytes maxL ret n) (hrm : mm_rmok rm R maxL) : CallB R s args own idx y bytes maxL ret (mm_ws y bytes maxL ret) rm 0 0 n ∧ (Cond.static y).before args s = true := by
  obtain ⟨hx, hb, hml, hown, hts, hK, hlk⟩ := C
  obtain ⟨h1, h2, h4, h5, h6⟩ := vs
  refine ⟨callB_of n hts ?_ rfl hrm.1 hrm.2.1 (hts _ h4) (hts _ h1) h6 ⟨hrm.2.2.1, hrm.2.2.2⟩, hts _ h2⟩
  intro w hw
  rcases List.mem_cons.mp hw with rfl | h
  · exact mm_good _ h5
  · exact mm_good _ h
theorem mm_cwSN (C : mm_C g own cc nL p s m args meth c) {host : String} (hl : va_Nw (.methodLinkNest own idx y host) s) (vs : mm_SN own idx y host bytes maxL ret n) (hrm : mm_rmok rm R maxL) : va_CN R s args own idx y host bytes maxL ret (mm_ws y bytes maxL ret) rm 0 0 n ∧ (Cond.static y).before args s = true ∧ True := by
  obtain ⟨hx, hb, hml, hown, hts, hK, hlk⟩ := C
  obtain ⟨h2, h4, h5, h6⟩ := vs
  refine ⟨va_cnB n hts ?_ rfl hrm.1 hrm.2.1 hl (hts _ h4) h6 ⟨hrm.2.2.1, hrm.2.2.2⟩, hts _ h2, trivial⟩
  intro w hw
  rcases List.mem_cons.mp hw with rfl | h
  · exact mm_good _ h5
  · exact mm_good _ h
theorem mm_callVi (C : mm_C g own cc nL p s m args meth c) (hR : mm_R g A M H) (hS : va_S A s.heap H locs) (hsz : ls.size = nL) (vs : mm_VS own idx ci y bytes maxL ret n) {u : Unit} (hk : mm_ck ci M a = some u) {r : Int32} (hM : Met l y (mm_ws y bytes maxL ret) rm (va_Pc (.ref a :: As) (mm_B g A M)) (mm_Ti g A r M2) 0 0 A) (hrm : mm_rmok rm R maxL)
    (hn : As.length = n) (hw : (rest.map fun v => v.category).sum ≤ 8) (hf : cells ≤ R.cells ∧ slots ≤ R.slots) {st : List Value} (hst : st = As.reverse ++ .ref a :: rest) (hdg : decode cc pc = .ok (.invokevirtual idx, 3))
    (kk : ∀ (H' : Heap) (locs' : List Loc), mm_R g A M2 H' → va_S A s.heap H' locs' → W p l e R s m args below meth c H' locs' cells slots Q (F0 m (pc + 3) ls (.int r :: rest))) : W p l e R s m args below meth c H locs cells slots Q (F0 m pc ls st) := by
  have C0 := C
  obtain ⟨hx, hb, hml, hown, hts, hK, hlk⟩ := C
  obtain ⟨⟨T, N, hc⟩, -⟩ := id vs
  refine va_calli (va_runV (As := As) (rest := rest) ⟨hx, hb, hml, hown, hts⟩ hM (mm_cwV C0 vs hrm) ⟨mm_blind, mm_recv hK hR hk hc, mm_pre hK hR _⟩ rfl hn hsz hst (lv_room hw) hdg hf) hS (fun q _ h => h) (fun _ h => h) (fun r' u t H1 locs1 ht hvm hw hB hz1 hk1 hS1 => ?_)
  subst hw
  exact kk H1 locs1 (by rw [← ht]; exact hB) hS1
theorem mm_callVv (C : mm_C g own cc nL p s m args meth c) (hR : mm_R g A M H) (hS : va_S A s.heap H locs) (hsz : ls.size = nL) (vs : mm_VS own idx ci y bytes maxL ret n) {u : Unit} (hk : mm_ck ci M a = some u) (hM : Met l y (mm_ws y bytes maxL ret) rm (va_Pc (.ref a :: As) (mm_B g A M)) (mm_Tv g A M2) 0 0 A) (hrm : mm_rmok rm R maxL)
    (hn : As.length = n) (hw : (rest.map fun v => v.category).sum ≤ 8) (hf : cells ≤ R.cells ∧ slots ≤ R.slots) {st : List Value} (hst : st = As.reverse ++ .ref a :: rest) (hdg : decode cc pc = .ok (.invokevirtual idx, 3))
    (kk : ∀ (H' : Heap) (locs' : List Loc), mm_R g A M2 H' → va_S A s.heap H' locs' → W p l e R s m args below meth c H' locs' cells slots Q (F0 m (pc + 3) ls rest)) : W p l e R s m args below meth c H locs cells slots Q (F0 m pc ls st) := by
  have C0 := C
  obtain ⟨hx, hb, hml, hown, hts, hK, hlk⟩ := C
  obtain ⟨⟨T, N, hc⟩, -⟩ := id vs
  refine va_callv (va_runV (As := As) (rest := rest) ⟨hx, hb, hml, hown, hts⟩ hM (mm_cwV C0 vs hrm) ⟨mm_blind, mm_recv hK hR hk hc, mm_pre hK hR _⟩ rfl hn hsz hst (lv_room hw) hdg hf) hS (fun q _ h => h) (fun _ h => h) (fun u t H1 locs1 ht hvm hw hB hz1 hk1 hS1 => ?_)
  exact kk H1 locs1 (by rw [← ht]; exact hB) hS1
theorem mm_callr {r : Option Nat} {st0 : List Value} {aa : Array Value} (hr : va_Run p l e R s m args below meth c H locs cells slots 0 0 (F0 m pc ls st0) rest (mm_Tr g A r M2 aa) A) (hS : va_S A s.heap H locs)
    (kk : ∀ (H' : Heap) (locs' : List Loc), mm_R g A M2 H' → va_S A s.heap H' locs' → W p l e R s m args below meth c H' locs' cells slots Q (F0 m (pc + 3) ls (va_rf r :: rest))) : W p l e R s m args below meth c H locs cells slots Q (F0 m pc ls st0) := by
  intro T hT X
  obtain ⟨v, st₀, t, T', L, h0, X', hL, e1, e2, ⟨hv, hq, hz, hk⟩, st⟩ := hr T hT X
  cases hv
  rw [h0] at hz hk
  obtain ⟨t2, a1, b1⟩ := kk T'.heap (locs ++ L) (by rw [e1]; exact hq) ⟨by rw [e1]; exact Nat.le_trans hS.1 hz, fun q h1 h2 => by rw [e1, hk q (Nat.lt_of_lt_of_le h1 hS.1) h2]; exact hS.2.1 q h1 h2, fun q hq' => (List.mem_append.mp hq').elim (hS.2.2 q) (hL q)⟩ T' rfl X'
  exact ⟨t2, st t2 a1, b1⟩
theorem mm_callVr (C : mm_C g own cc nL p s m args meth c) (hR : mm_R g A M H) (hS : va_S A s.heap H locs) (hsz : ls.size = nL) (vs : mm_VS own idx ci y bytes maxL ret n) {u : Unit} (hk : mm_ck ci M a = some u) {r : Option Nat} (hM : Met l y (mm_ws y bytes maxL ret) rm (va_Pc (.ref a :: As) (mm_B g A M)) (mm_Tr g A r M2) 0 0 A) (hrm : mm_rmok rm R maxL)
    (hn : As.length = n) (hw : (rest.map fun v => v.category).sum ≤ 8) (hf : cells ≤ R.cells ∧ slots ≤ R.slots) {st : List Value} (hst : st = As.reverse ++ .ref a :: rest) (hdg : decode cc pc = .ok (.invokevirtual idx, 3))
    (kk : ∀ (H' : Heap) (locs' : List Loc), mm_R g A M2 H' → va_S A s.heap H' locs' → W p l e R s m args below meth c H' locs' cells slots Q (F0 m (pc + 3) ls (va_rf r :: rest))) : W p l e R s m args below meth c H locs cells slots Q (F0 m pc ls st) := by
  have C0 := C
  obtain ⟨hx, hb, hml, hown, hts, hK, hlk⟩ := C
  obtain ⟨⟨T, N, hc⟩, -⟩ := id vs
  exact mm_callr (va_runV (As := As) (rest := rest) ⟨hx, hb, hml, hown, hts⟩ hM (mm_cwV C0 vs hrm) ⟨mm_blind, mm_recv hK hR hk hc, mm_pre hK hR _⟩ rfl hn hsz hst (lv_room hw) hdg hf) hS kk
theorem mm_callSi (C : mm_C g own cc nL p s m args meth c) (hR : mm_R g A M H) (hS : va_S A s.heap H locs) (hsz : ls.size = nL) (vs : mm_SS own idx y bytes maxL ret n) {r : Int32} (hM : Met l y (mm_ws y bytes maxL ret) rm (va_Pc As (mm_B g A M)) (mm_Ti g A r M2) 0 0 A) (hrm : mm_rmok rm R maxL)
    (hn : As.length = n) (hw : (rest.map fun v => v.category).sum ≤ 8) (hf : cells ≤ R.cells ∧ slots ≤ R.slots) {st : List Value} (hst : st = As.reverse ++ rest) (hdg : decode cc pc = .ok (.invokestatic idx, 3))
    (kk : ∀ (H' : Heap) (locs' : List Loc), mm_R g A M2 H' → va_S A s.heap H' locs' → W p l e R s m args below meth c H' locs' cells slots Q (F0 m (pc + 3) ls (.int r :: rest))) : W p l e R s m args below meth c H locs cells slots Q (F0 m pc ls st) := by
  have C0 := C
  obtain ⟨hx, hb, hml, hown, hts, hK, hlk⟩ := C
  refine va_calli (va_runS (As := As) (rest := rest) ⟨hx, hb, hml, hown, hts⟩ hM (mm_cwS C0 vs hrm) ⟨mm_blind, mm_pre hK hR _⟩ rfl hn hsz hst (lv_room hw) hdg hf) hS (fun q _ h => h) (fun _ h => h) (fun r' u t H1 locs1 ht hvm hw hB hz1 hk1 hS1 => ?_)
  subst hw
  exact kk H1 locs1 (by rw [← ht]; exact hB) hS1
theorem mm_callSv (C : mm_C g own cc nL p s m args meth c) (hR : mm_R g A M H) (hS : va_S A s.heap H locs) (hsz : ls.size = nL) (vs : mm_SS own idx y bytes maxL ret n) (hM : Met l y (mm_ws y bytes maxL ret) rm (va_Pc As (mm_B g A M)) (mm_Tv g A M2) 0 0 A) (hrm : mm_rmok rm R maxL)
    (hn : As.length = n) (hw : (rest.map fun v => v.category).sum ≤ 8) (hf : cells ≤ R.cells ∧ slots ≤ R.slots) {st : List Value} (hst : st = As.reverse ++ rest) (hdg : decode cc pc = .ok (.invokestatic idx, 3))
    (kk : ∀ (H' : Heap) (locs' : List Loc), mm_R g A M2 H' → va_S A s.heap H' locs' → W p l e R s m args below meth c H' locs' cells slots Q (F0 m (pc + 3) ls rest)) : W p l e R s m args below meth c H locs cells slots Q (F0 m pc ls st) := by
  have C0 := C
  obtain ⟨hx, hb, hml, hown, hts, hK, hlk⟩ := C
  refine va_callv (va_runS (As := As) (rest := rest) ⟨hx, hb, hml, hown, hts⟩ hM (mm_cwS C0 vs hrm) ⟨mm_blind, mm_pre hK hR _⟩ rfl hn hsz hst (lv_room hw) hdg hf) hS (fun q _ h => h) (fun _ h => h) (fun u t H1 locs1 ht hvm hw hB hz1 hk1 hS1 => ?_)
  exact kk H1 locs1 (by rw [← ht]; exact hB) hS1
theorem mm_callSNi (C : mm_C g own cc nL p s m args meth c) (hR : mm_R g A M H) (hS : va_S A s.heap H locs) (hsz : ls.size = nL) {host : String} (hl : va_Nw (.methodLinkNest own idx y host) s) (vs : mm_SN own idx y host bytes maxL ret n) {r : Int32} (hM : Met l y (mm_ws y bytes maxL ret) rm (va_Pc As (mm_B g A M)) (mm_Ti g A r M2) 0 0 A) (hrm : mm_rmok rm R maxL)
    (hn : As.length = n) (hw : (rest.map fun v => v.category).sum ≤ 8) (hf : cells ≤ R.cells ∧ slots ≤ R.slots) {st : List Value} (hst : st = As.reverse ++ rest) (hdg : decode cc pc = .ok (.invokestatic idx, 3))
    (kk : ∀ (H' : Heap) (locs' : List Loc), mm_R g A M2 H' → va_S A s.heap H' locs' → W p l e R s m args below meth c H' locs' cells slots Q (F0 m (pc + 3) ls (.int r :: rest))) : W p l e R s m args below meth c H locs cells slots Q (F0 m pc ls st) := by
  have C0 := C
  obtain ⟨hx, hb, hml, hown, hts, hK, hlk⟩ := C
  refine va_calli (va_runSN (As := As) (rest := rest) ⟨hx, hb, hml, hown, hts⟩ hM (mm_cwSN C0 hl vs hrm) ⟨mm_blind, mm_pre hK hR _⟩ rfl hn hsz hst (lv_room hw) hdg hf) hS (fun q _ h => h) (fun _ h => h) (fun r' u t H1 locs1 ht hvm hw hB hz1 hk1 hS1 => ?_)
  subst hw
  exact kk H1 locs1 (by rw [← ht]; exact hB) hS1
-- a constructor's call: it may make cells
theorem mm_cwI (C : mm_C g own cc nL p s m args meth c) (vs : mm_IS own idx y bytes maxL n) {mc ms : Nat} (hrm : rm.cells = mc ∧ rm.slots = ms ∧ rm.frames + 1 ≤ R.frames ∧ 8 + (maxL + 11) + rm.locals ≤ R.locals) : CallB R s args own idx y bytes maxL none (mm_ws y bytes maxL none) rm mc ms n ∧ y.name = "<init>" ∧ (Cond.instanceMethod y).before args s = true := by
  obtain ⟨hx, hb, hml, hown, hts, hK, hlk⟩ := C
  obtain ⟨h1, h2, h3, h4, h5, h6⟩ := vs
  refine cwI n hts ?_ rfl hrm.1 hrm.2.1 (hts _ h4) (hts _ h1) (hts _ h2) h3 h6 ⟨hrm.2.2.1, hrm.2.2.2⟩
  intro w hw
  rcases List.mem_cons.mp hw with rfl | h
  · exact mm_good _ h5
  · exact mm_good _ h
theorem mm_cwIN (C : mm_C g own cc nL p s m args meth c) {host : String} (hl : va_Nw (.methodLinkNest own idx y host) s) (vs : mm_IN own idx y host bytes maxL n) {mc ms : Nat} (hrm : rm.cells = mc ∧ rm.slots = ms ∧ rm.frames + 1 ≤ R.frames ∧ 8 + (maxL + 11) + rm.locals ≤ R.locals) : va_CN R s args own idx y host bytes maxL none (mm_ws y bytes maxL none) rm mc ms n ∧ y.name = "<init>" ∧ (Cond.instanceMethod y).before args s = true := by
  obtain ⟨hx, hb, hml, hown, hts, hK, hlk⟩ := C
  obtain ⟨h2, h3, h4, h5, h6⟩ := vs
  refine ⟨va_cnB n hts ?_ rfl hrm.1 hrm.2.1 hl (hts _ h4) h6 ⟨hrm.2.2.1, hrm.2.2.2⟩, h3, hts _ h2⟩
  intro w hw
  rcases List.mem_cons.mp hw with rfl | h
  · exact mm_good _ h5
  · exact mm_good _ h
theorem mm_callI (C : mm_C g own cc nL p s m args meth c) (hR : mm_R g A M H) (hS : va_S A s.heap H locs) (hsz : ls.size = nL) {sz sz2 : Nat} (hz : H.size = sz) (vs : mm_IS own idx y bytes maxL n) {mc ms : Nat} (hM : Met l y (mm_ws y bytes maxL none) rm (va_Pc (.ref a :: As) (fun U => U.heap.size = sz ∧ mm_B g A M U)) (mm_Tz g A M2 sz2) mc ms A) (hrm : rm.cells = mc ∧ rm.slots = ms ∧ rm.frames + 1 ≤ R.frames ∧ 8 + (maxL + 11) + rm.locals ≤ R.locals)
    (hn : As.length = n) (hw : (rest.map fun v => v.category).sum ≤ 8) (hf : cells + mc ≤ R.cells ∧ slots + ms ≤ R.slots) {st : List Value} (hst : st = As.reverse ++ .ref a :: rest) (hdg : decode cc pc = .ok (.invokespecial idx, 3))
    (kk : ∀ (H' : Heap) (locs' : List Loc), H'.size = sz2 → mm_R g A M2 H' → va_S A s.heap H' locs' → W p l e R s m args below meth c H' locs' (cells + mc) (slots + ms) Q (F0 m (pc + 3) ls rest)) : W p l e R s m args below meth c H locs cells slots Q (F0 m pc ls st) := by
  have C0 := C
  obtain ⟨hx, hb, hml, hown, hts, hK, hlk⟩ := C
  refine va_callv (va_runI (As := As) (rest := rest) ⟨hx, hb, hml, hown, hts⟩ hM (mm_cwI C0 vs hrm) ⟨mm_blindZ, mm_preZ hK hR hz _⟩ rfl hn hsz hst (lv_room hw) hdg hf) hS (fun q _ h => h) (fun _ h => h) (fun u t H1 locs1 ht hvm hw hB hz1 hk1 hS1 => ?_)
  exact kk H1 locs1 (by rw [← ht]; exact hB.1) (by rw [← ht]; exact hB.2) hS1
theorem mm_callIN (C : mm_C g own cc nL p s m args meth c) (hR : mm_R g A M H) (hS : va_S A s.heap H locs) (hsz : ls.size = nL) {sz sz2 : Nat} (hz : H.size = sz) {host : String} (hl : va_Nw (.methodLinkNest own idx y host) s) (vs : mm_IN own idx y host bytes maxL n) {mc ms : Nat} (hM : Met l y (mm_ws y bytes maxL none) rm (va_Pc (.ref a :: As) (fun U => U.heap.size = sz ∧ mm_B g A M U)) (mm_Tz g A M2 sz2) mc ms A) (hrm : rm.cells = mc ∧ rm.slots = ms ∧ rm.frames + 1 ≤ R.frames ∧ 8 + (maxL + 11) + rm.locals ≤ R.locals)
    (hn : As.length = n) (hw : (rest.map fun v => v.category).sum ≤ 8) (hf : cells + mc ≤ R.cells ∧ slots + ms ≤ R.slots) {st : List Value} (hst : st = As.reverse ++ .ref a :: rest) (hdg : decode cc pc = .ok (.invokespecial idx, 3))
    (kk : ∀ (H' : Heap) (locs' : List Loc), H'.size = sz2 → mm_R g A M2 H' → va_S A s.heap H' locs' → W p l e R s m args below meth c H' locs' (cells + mc) (slots + ms) Q (F0 m (pc + 3) ls rest)) : W p l e R s m args below meth c H locs cells slots Q (F0 m pc ls st) := by
  have C0 := C
  obtain ⟨hx, hb, hml, hown, hts, hK, hlk⟩ := C
  refine va_callv (va_runIN (As := As) (rest := rest) ⟨hx, hb, hml, hown, hts⟩ hM (mm_cwIN C0 hl vs hrm) ⟨mm_blindZ, mm_preZ hK hR hz _⟩ rfl hn hsz hst (lv_room hw) hdg hf) hS (fun q _ h => h) (fun _ h => h) (fun u t H1 locs1 ht hvm hw hB hz1 hk1 hS1 => ?_)
  exact kk H1 locs1 (by rw [← ht]; exact hB.1) (by rw [← ht]; exact hB.2) hS1
theorem mm_obj (C : mm_C g own cc nL p s m args meth c) (hsz : ls.size = nL) (h1 : Cond.methodLink own idx objectInit ∈ mm_gw) (h2 : Cond.instanceMethod objectInit ∈ mm_gw) (h3 : Cond.code objectInit ⟨#[0xb1]⟩ 1 none ∈ mm_gw) (hfr : 1 ≤ R.frames) (hlo : (rest.map fun v => v.category).sum + 12 ≤ R.locals) (hdg : decode cc pc = .ok (.invokespecial idx, 3))
    (kk : W p l e R s m args below meth c H locs cells slots Q (F0 m (pc + 3) ls rest)) : W p l e R s m args below meth c H locs cells slots Q (F0 m pc ls (.ref a :: rest)) := by
  obtain ⟨hx, hb, hml, hown, hts, hK, hlk⟩ := C
  refine W.objInit hx hb hown (hts _ h1) (hts _ h2) (hts _ h3) rfl (by rw [hml]; exact hsz) rfl hdg hfr (by show 2 * 0 + _ + 12 ≤ _; omega) kk
-- Math
theorem mm_max (C : mm_C g own cc nL p s m args meth c) (hsz : ls.size = nL) (h1 : Cond.methodLink own idx Lib.Math.max.name ∈ mm_gw) (h2 : Cond.static Lib.Math.max.name ∈ mm_gw) (h3 : Cond.initialized "java/lang/Math" ∈ mm_gw) (h4 : Cond.code Lib.Math.max.name Lib.Math.max.code 2 (some .int) ∈ mm_gw) (hfr : 1 ≤ R.frames) (hlo : (rest.map fun v => v.category).sum + 13 ≤ R.locals) (hc : cells ≤ R.cells ∧ slots ≤ R.slots) {x y : Int32} (hdg : decode cc pc = .ok (.invokestatic idx, 3))
    (kk : W p l e R s m args below meth c H locs cells slots Q (F0 m (pc + 3) ls (.int (mm_mx x y) :: rest))) : W p l e R s m args below meth c H locs cells slots Q (F0 m pc ls (.int y :: .int x :: rest)) := by
  obtain ⟨hx, hb, hml, hown, hts, hK, hlk⟩ := C
  exact va_mmax hx hb (by rw [hml, hsz]) hown (hts _ h1) (hts _ h2) (hts _ h3) (hts _ h4) hfr hlo hc.1 hc.2 hdg kk
theorem mm_min (C : mm_C g own cc nL p s m args meth c) (hsz : ls.size = nL) (h1 : Cond.methodLink own idx Lib.Math.min.name ∈ mm_gw) (h2 : Cond.static Lib.Math.min.name ∈ mm_gw) (h3 : Cond.initialized "java/lang/Math" ∈ mm_gw) (h4 : Cond.code Lib.Math.min.name Lib.Math.min.code 2 (some .int) ∈ mm_gw) (hfr : 1 ≤ R.frames) (hlo : (rest.map fun v => v.category).sum + 13 ≤ R.locals) (hc : cells ≤ R.cells ∧ slots ≤ R.slots) {x y : Int32} (hdg : decode cc pc = .ok (.invokestatic idx, 3))
    (kk : W p l e R s m args below meth c H locs cells slots Q (F0 m (pc + 3) ls (.int (mm_mn x y) :: rest))) : W p l e R s m args below meth c H locs cells slots Q (F0 m pc ls (.int y :: .int x :: rest)) := by
  obtain ⟨hx, hb, hml, hown, hts, hK, hlk⟩ := C
  exact va_mmin hx hb (by rw [hml, hsz]) hown (hts _ h1) (hts _ h2) (hts _ h3) (hts _ h4) hfr hlo hc.1 hc.2 hdg kk
theorem mm_abs (C : mm_C g own cc nL p s m args meth c) (hsz : ls.size = nL) (h1 : Cond.methodLink own idx Lib.Math.abs.name ∈ mm_gw) (h2 : Cond.static Lib.Math.abs.name ∈ mm_gw) (h3 : Cond.initialized "java/lang/Math" ∈ mm_gw) (h4 : Cond.code Lib.Math.abs.name Lib.Math.abs.code 1 (some .int) ∈ mm_gw) (hfr : 1 ≤ R.frames) (hlo : (rest.map fun v => v.category).sum + 13 ≤ R.locals) (hc : cells ≤ R.cells ∧ slots ≤ R.slots) {x : Int32} (hdg : decode cc pc = .ok (.invokestatic idx, 3))
    (kk : W p l e R s m args below meth c H locs cells slots Q (F0 m (pc + 3) ls (.int (mm_ab x) :: rest))) : W p l e R s m args below meth c H locs cells slots Q (F0 m pc ls (.int x :: rest)) := by
  obtain ⟨hx, hb, hml, hown, hts, hK, hlk⟩ := C
  exact va_mabs hx hb (by rw [hml, hsz]) hown (hts _ h1) (hts _ h2) (hts _ h3) (hts _ h4) hfr hlo hc.1 hc.2 hdg kk
theorem mm_idiv (C : mm_C g own cc nL p s m args meth c) {x y v : Int32} (hv : mm_dv x y = some v) (hdg : decode cc pc = .ok (.idiv, 1))
    (kk : W p l e R s m args below meth c H locs cells slots Q (F0 m (pc + 1) ls (.int v :: rest))) : W p l e R s m args below meth c H locs cells slots Q (F0 m pc ls (.int y :: .int x :: rest)) := by
  unfold mm_dv at hv
  split at hv
  · cases hv
  · rename_i hne
    cases hv
    exact lv_idiv C.1 C.2.1 hdg hne kk
theorem mm_irem (C : mm_C g own cc nL p s m args meth c) {x y v : Int32} (hv : mm_rm x y = some v) (hdg : decode cc pc = .ok (.irem, 1))
    (kk : W p l e R s m args below meth c H locs cells slots Q (F0 m (pc + 1) ls (.int v :: rest))) : W p l e R s m args below meth c H locs cells slots Q (F0 m pc ls (.int y :: .int x :: rest)) := by
  unfold mm_rm at hv
  split at hv
  · cases hv
  · rename_i hne
    cases hv
    exact lv_irem C.1 C.2.1 hdg hne kk
-- ends
theorem mm_iret (C : mm_C g own cc nL p s m args meth c) (hR : mm_R g A M H) (hS : va_S A s.heap H locs) (hr : meth.sig.returnType = some .int) {v : Int32} (hdg : decode cc pc = .ok (.ireturn, 1)) : W p l e R s m args below meth c H locs cells slots (MQ below (mm_Ti g A v M) args s cells slots A) (F0 m pc ls [.int v]) :=
  W.iret (v := v) C.1 C.2.1 hr (fun t ht hW => ⟨⟨v, (), rfl, rfl, by show mm_R g A M t.heap; rw [ht]; exact hR⟩, hS.F ht⟩) hS.2.2 hdg C.2.2.2.2.2.2
theorem mm_zret (C : mm_C g own cc nL p s m args meth c) (hR : mm_R g A M H) (hS : va_S A s.heap H locs) (hr : meth.sig.returnType = some .boolean) {v : Int32} (hv : v = 0 ∨ v = 1) (hdg : decode cc pc = .ok (.ireturn, 1)) : W p l e R s m args below meth c H locs cells slots (MQ below (mm_Ti g A v M) args s cells slots A) (F0 m pc ls [.int v]) :=
  W.zret (v := v) (ty := .boolean) C.1 C.2.1 hr (by rcases hv with rfl | rfl <;> decide) (fun t ht hW => ⟨⟨v, (), rfl, rfl, by show mm_R g A M t.heap; rw [ht]; exact hR⟩, hS.F ht⟩) hS.2.2 hdg C.2.2.2.2.2.2
theorem mm_vret (C : mm_C g own cc nL p s m args meth c) (hR : mm_R g A M H) (hS : va_S A s.heap H locs) (hr : meth.sig.returnType = none) (hdg : decode cc pc = .ok (.return_, 1)) : W p l e R s m args below meth c H locs cells slots (MQ below (mm_Tv g A M) args s cells slots A) (F0 m pc ls []) :=
  W.vret C.1 C.2.1 hr (fun t ht hW => ⟨⟨(), rfl, trivial, by show mm_R g A M t.heap; rw [ht]; exact hR⟩, hS.F ht⟩) hS.2.2 hdg C.2.2.2.2.2.2
theorem mm_vretZ (C : mm_C g own cc nL p s m args meth c) (hR : mm_R g A M H) (hS : va_S A s.heap H locs) (hr : meth.sig.returnType = none) {sz : Nat} (hz : H.size = sz) (hdg : decode cc pc = .ok (.return_, 1)) : W p l e R s m args below meth c H locs cells slots (MQ below (mm_Tz g A M sz) args s cells slots A) (F0 m pc ls []) :=
  W.vret C.1 C.2.1 hr (fun t ht hW => ⟨⟨(), rfl, trivial, by show t.heap.size = sz ∧ mm_R g A M t.heap; rw [ht]; exact ⟨hz, hR⟩⟩, hS.F ht⟩) hS.2.2 hdg C.2.2.2.2.2.2
theorem mm_aret (C : mm_C g own cc nL p s m args meth c) (hR : mm_R g A M H) (hS : va_S A s.heap H locs) {Cn : String} (hr : meth.sig.returnType = some (.object Cn)) {r : Option Nat} (hdg : decode cc pc = .ok (.areturn, 1)) : W p l e R s m args below meth c H locs cells slots (MQ below (mm_Tr g A r M) args s cells slots A) (F0 m pc ls [va_rf r]) :=
  W.aret (v := va_rf r) C.1 C.2.1 hr (Or.inl ⟨_, rfl⟩) (by cases r with | none => exact Or.inl rfl | some q => exact Or.inr ⟨q, rfl⟩) (fun t ht hW => ⟨rfl, by rw [ht]; exact hR, hS.F ht⟩) hS.2.2 hdg C.2.2.2.2.2.2
end MMR
/-- a contract out of a walk of the body -/
theorem mm_met {l : Launch} {y : MethodName} {bytes : ByteArray} {maxL : Nat} {ret : Option FieldType} {rm : Room} {Bq : State → Prop} {as : List Value} {Qc : Array Value → State → Outcome → State → Prop} {mc ms : Nat} {g : mm_G} {A : Nat → Prop} {lv : List (Nat × Value)} (hK : ∀ U, Bq U → mm_K g U)
    (hy : plainName y.cls = true) (hn : (lg_sl as).length ≤ maxL) (hlv : lv_args 0 as = lv)
    (body : ∀ (p : Program) (e : Env) (s : State) (m : MethodId) (args : Array Value) (below : List Frame) (meth : Method) (c : Code) (ls : Array Slot), mm_C g y.cls bytes maxL p s m args meth c → meth.sig.returnType = ret → meth.name = y.name → Bq s → lv_has ls maxL lv →
      W p l e rm s m args below meth c s.heap [] 0 0 (MQ below Qc args s mc ms A) (F0 m 0 ls [])) : Met l y (mm_ws y bytes maxL ret) rm (va_Pc as Bq) Qc mc ms A := by
  refine Met.ofW (cc := bytes) (maxL := maxL) (ret := ret) hy rfl ?_
  intro p e s m args below meth c s₁ B hml hv
  obtain ⟨rfl, hB⟩ := hv
  have hts := atoms_spec (ws := mm_ws y bytes maxL ret) B.pre
  have hown : s.vm.findClass y.cls = some m.cls := findClass_of_methodNamed B.named
  have hl := lv_entry as (n := maxL) hn
  rw [lg_entry_eq]
  rw [hlv] at hl
  exact body p e s m _ below meth c _ ⟨B.exec, B.bytes, hml, hown, fun w hw => hts w (List.mem_cons_of_mem _ hw), hK s hB, B.notSynchronized⟩ B.returns (name_of_methodNamed B.named B.method).1 hB hl
end
section
-- rows that tell that the heap doesn't shrink, for constructors; branches and returns over what is computed
def mm_nO (ci : Nat) (fs : List Value) (sz : Nat) (M : mm_M) : Option mm_M := some (mm_up M sz (.inl (ci, fs)))
def mm_nI (t n : Nat) (sz : Nat) (M : mm_M) : Option mm_M := some (mm_up M sz (.inr (t, n, .inl (fun _ => 0))))
def mm_nR (t n : Nat) (sz : Nat) (M : mm_M) : Option mm_M := some (mm_up M sz (.inr (t, n, .inr (fun _ => none))))
theorem mm_if1 {α : Type} {c : Prop} [Decidable c] {a b : α} {r : α} (hc : c) (h : (if c then a else b) = r) : a = r := by rwa [if_pos hc] at h
theorem mm_if0 {α : Type} {c : Prop} [Decidable c] {a b : α} {r : α} (hc : ¬ c) (h : (if c then a else b) = r) : b = r := by rwa [if_neg hc] at h
def mm_oc {β : Type} (o : Option Nat) (a : β) (k : Nat → β) : β := match o with
  | none => a
  | some q => k q
theorem mm_ocn {β : Type} {a : β} {k : Nat → β} {r : β} (h : mm_oc none a k = r) : a = r := h
theorem mm_ocs {β : Type} {q : Nat} {a : β} {k : Nat → β} {r : β} (h : mm_oc (some q) a k = r) : k q = r := h
theorem mm_sl {α β γ : Type} {f : α → γ} {k : β → γ} {a : α} {r : γ} (h : Sum.elim f k (.inl a) = r) : f a = r := h
theorem mm_sr {α β γ : Type} {f : α → γ} {k : β → γ} {a : β} {r : γ} (h : Sum.elim f k (.inr a) = r) : k a = r := h
def mm_u0 {β : Type} (f : β) : Unit → β := fun _ => f
def mm_u1 {α β : Type} (f : α → β) : α → β := f
def mm_u2 {α α2 β : Type} (f : α → α2 → β) : α × α2 → β := fun s => f s.1 s.2
def mm_u3 {α α2 α3 β : Type} (f : α → α2 → α3 → β) : α × α2 × α3 → β := fun s => f s.1 s.2.1 s.2.2
def mm_u4 {α α2 α3 α4 β : Type} (f : α → α2 → α3 → α4 → β) : α × α2 × α3 × α4 → β := fun s => f s.1 s.2.1 s.2.2.1 s.2.2.2
def mm_u5 {α α2 α3 α4 α5 β : Type} (f : α → α2 → α3 → α4 → α5 → β) : α × α2 × α3 × α4 × α5 → β := fun s => f s.1 s.2.1 s.2.2.1 s.2.2.2.1 s.2.2.2.2
def mm_u6 {α α2 α3 α4 α5 α6 β : Type} (f : α → α2 → α3 → α4 → α5 → α6 → β) : α × α2 × α3 × α4 × α5 × α6 → β := fun s => f s.1 s.2.1 s.2.2.1 s.2.2.2.1 s.2.2.2.2.1 s.2.2.2.2.2
theorem mm_pe {α β : Type} {a c : α} {b d : β} (h : some (a, b) = some (c, d)) : a = c ∧ b = d := by cases h; exact ⟨rfl, rfl⟩
/-- a truth value that is answered -/
def mm_bz (v : Int32) : Option Int32 := if v = 0 ∨ v = 1 then some v else none
theorem mm_bz_s {v w : Int32} (h : mm_bz v = some w) : (v = 0 ∨ v = 1) ∧ v = w := by
  unfold mm_bz at h
  split at h
  · rename_i hc
    exact ⟨hc, Option.some.inj h⟩
  · cases h
theorem mm_S_self {A : Nat → Prop} {H0 H : Heap} {locs : List Loc} (h : va_S A H0 H locs) : va_S A H H locs := ⟨Nat.le_refl _, fun _ _ _ => rfl, h.2.2⟩
theorem mm_S_trans {A : Nat → Prop} {H0 H H' : Heap} {locs locs' : List Loc} (h : va_S A H0 H locs) (h' : va_S A H H' locs') : va_S A H0 H' locs' := ⟨Nat.le_trans h.1 h'.1, fun q h1 h2 => by rw [h'.2.1 q (Nat.lt_of_lt_of_le h1 h.1) h2]; exact h.2.1 q h1 h2, h'.2.2⟩
section MMZ
variable {p : Program} {l : Launch} {e : Env} {R : Room} {s : State} {m : MethodId} {args : Array Value} {below : List Frame} {meth : Method} {c : Code} {H : Heap} {locs : List Loc} {cells slots : Nat} {Q : State → Prop}
variable {cc : ByteArray} {nL pc : Nat} {ls : Array Slot} {rest : List Value} {g : mm_G} {A : Nat → Prop} {M M' : mm_M} {own : String} {a : Nat} {idx ci k t : Nat}
theorem mm_putIz (C : mm_C g own cc nL p s m args meth c) (hR : mm_R g A M H) (hS : va_S A s.heap H locs) (hs : mm_PS own idx ci k false .int) {v : Int32} (hv : mm_pI ci M a k v = some M') (hdg : decode cc pc = .ok (.putfield idx, 3)) {z : Nat} (hz : z ≤ H.size)
    (kk : ∀ (H' : Heap) (locs' : List Loc), z ≤ H'.size → mm_R g A M' H' → va_S A s.heap H' locs' → W p l e R s m args below meth c H' locs' cells slots Q (F0 m (pc + 3) ls rest)) : W p l e R s m args below meth c H locs cells slots Q (F0 m pc ls (.int v :: .ref a :: rest)) := by
  obtain ⟨hx, hb, hml, hown, hts, hK, hlk⟩ := C
  obtain ⟨Cn, T, N, ty0, hc, hk, hin, hln, hty, hnm, hfin, hd, -⟩ := hs
  obtain ⟨fs, hM, hlt, rfl⟩ := mm_pI_s hv
  obtain ⟨L, hL, hP, hD⟩ := hR
  obtain ⟨-, q0, hq⟩ := mm_at (g := g) hL hM
  refine va_put (ty := .int) (v := .int v) hx hb hts hin ty0 hty hnm hown hK.1 hP hD (mm_S_self hS) q0 hq hc k hk (hts _ hln) (fun _ h => h) hfin hd rfl rfl hlt hdg (fun H' locs' hP' hD' hS' => ?_)
  exact kk H' locs' (Nat.le_trans hz hS'.1) (mm_R_set (o' := .inl (ci, fs.set k (.int v))) hL hM hD hq hP' hD') (mm_S_trans hS hS')
theorem mm_putRz (C : mm_C g own cc nL p s m args meth c) (hR : mm_R g A M H) (hS : va_S A s.heap H locs) (hin2 : meth.name = "<init>") {ty : FieldType} (hs : mm_PS own idx ci k true ty) (hty1 : ∀ v : Nat, narrow ty (.ref v) = .ref v ∧ fits ty (.ref v) = true) {v : Nat} (hv : mm_pR ci M a k v = some M') (hdg : decode cc pc = .ok (.putfield idx, 3)) {z : Nat} (hz : z ≤ H.size)
    (kk : ∀ (H' : Heap) (locs' : List Loc), z ≤ H'.size → mm_R g A M' H' → va_S A s.heap H' locs' → W p l e R s m args below meth c H' locs' cells slots Q (F0 m (pc + 3) ls rest)) : W p l e R s m args below meth c H locs cells slots Q (F0 m pc ls (.ref v :: .ref a :: rest)) := by
  obtain ⟨hx, hb, hml, hown, hts, hK, hlk⟩ := C
  obtain ⟨Cn, T, N, ty0, hc, hk, hin, hln, hty, hnm, hfin, hd, hdc⟩ := hs
  obtain ⟨fs, hM, hlt, rfl⟩ := mm_pR_s hv
  obtain ⟨L, hL, hP, hD⟩ := hR
  obtain ⟨-, q0, hq⟩ := mm_at (g := g) hL hM
  refine va_putF (ty := ty) (v := .ref v) hx hb hts hin ty0 hty hnm hown hK.1 hP hD (mm_S_self hS) q0 hq hc k hk (hts _ hln) (fun _ h => h) hfin hin2 (hdc rfl) hd (hty1 v).1 (hty1 v).2 hlt hdg (fun H' locs' hP' hD' hS' => ?_)
  exact kk H' locs' (Nat.le_trans hz hS'.1) (mm_R_set (o' := .inl (ci, fs.set k (.ref v))) hL hM hD hq hP' hD') (mm_S_trans hS hS')
theorem mm_iastz (C : mm_C g own cc nL p s m args meth c) (hR : mm_R g A M H) (hS : va_S A s.heap H locs) {i v : Int32} (hv : mm_sI 0 M a i v = some M') (hdg : decode cc pc = .ok (.iastore, 1)) {z : Nat} (hz : z ≤ H.size)
    (kk : ∀ (H' : Heap) (locs' : List Loc), z ≤ H'.size → mm_R g A M' H' → va_S A s.heap H' locs' → W p l e R s m args below meth c H' locs' cells slots Q (F0 m (pc + 1) ls rest)) : W p l e R s m args below meth c H locs cells slots Q (F0 m pc ls (.int v :: .int i :: .ref a :: rest)) := by
  obtain ⟨hx, hb, hml, hown, hts, hK, hlk⟩ := C
  obtain ⟨n, f, hM, hin, rfl⟩ := mm_sI_s hv
  obtain ⟨L, hL, hP, hD⟩ := hR
  obtain ⟨-, q0, hq⟩ := mm_at (g := g) hL hM
  refine va_iast hx hb hK.1 hP hD (mm_S_self hS) q0 0 hq rfl hin hdg (fun H' locs' hP' hD' hS' => ?_)
  exact kk H' locs' (Nat.le_trans hz hS'.1) (mm_R_set (o' := .inr (0, n, .inl (upd f i.toNatClampNeg v))) hL hM hD hq hP' hD') (mm_S_trans hS hS')
theorem mm_aastz (C : mm_C g own cc nL p s m args meth c) (hR : mm_R g A M H) (hS : va_S A s.heap H locs) {i : Int32} {v : Nat} {r : vw_C} (hc : mm_cl[ci]? = some r) (ht : mm_ty g.2 = mm_ty g.2 → (mm_ty g.2)[t]? = some (g.2 t, .object r.1)) (hv : mm_sR t ci M a i v = some M') (hdg : decode cc pc = .ok (.aastore, 1)) {z : Nat} (hz : z ≤ H.size)
    (kk : ∀ (H' : Heap) (locs' : List Loc), z ≤ H'.size → mm_R g A M' H' → va_S A s.heap H' locs' → W p l e R s m args below meth c H' locs' cells slots Q (F0 m (pc + 1) ls rest)) : W p l e R s m args below meth c H locs cells slots Q (F0 m pc ls (.ref v :: .int i :: .ref a :: rest)) := by
  obtain ⟨hx, hb, hml, hown, hts, hK, hlk⟩ := C
  obtain ⟨n, f, fs, hM, hin, hV, rfl⟩ := mm_sR_s hv
  obtain ⟨L, hL, hP, hD⟩ := hR
  obtain ⟨-, q0, hq⟩ := mm_at (g := g) hL hM
  obtain ⟨-, q1, hq1⟩ := mm_at (g := g) hL hV
  refine va_astq hx hb hK.1 hP hD (mm_S_self hS) q0 t q1 ci hq (ht rfl) hq1 hc hin hdg (fun H' locs' hP' hD' hS' => ?_)
  exact kk H' locs' (Nat.le_trans hz hS'.1) (mm_R_set (o' := .inr (t, n, .inr (va_up f i.toNatClampNeg (some v)))) hL hM hD hq hP' hD') (mm_S_trans hS hS')
/-- the heap's size is at most what has been made: here it is exactly that -/
theorem mm_hz {sz z : Nat} {g1 : JFrame} (hs : s.heap.size = sz) (hz : z ≤ H.size) (h : sz + cells = z) (kk : H.size = z → W p l e R s m args below meth c H locs cells slots Q g1) : W p l e R s m args below meth c H locs cells slots Q g1 := fun T hT X => by
  have h1 := X.heapSize
  rw [hT] at h1
  exact kk (by omega) T hT X
theorem mm_newO (C : mm_C g own cc nL p s m args meth c) (hR : mm_R g A M H) (hS : va_S A s.heap H locs) {sz0 : Nat} (hs0 : s.heap.size = sz0) (hA : ∀ q, sz0 ≤ q → A q) {z : Nat} (hz : z ≤ H.size) (hzc : sz0 + cells = z) {Cn : String} {T : u_T} {N : Nat} (ty0 : Nat → FieldType) (hc : mm_cl[ci]? = some (Cn, T, N)) (hin : ∀ w ∈ u_ws Cn T N, w ∈ mm_gw) (hty : ∀ k, k < N → parseFieldDescriptor (T k).2.2.1 = some (ty0 k))
    (h1 : Cond.classLink own idx Cn ∈ mm_gw) (h2 : Cond.instantiable Cn N ∈ mm_gw) (h3 : Cond.initialized Cn ∈ mm_gw) {fs : List Value} (hfs : ∀ j, j < N → defaultValue (ty0 j) = vp_V fs j) (hcells : cells + 1 ≤ R.cells) (hslots : slots + N ≤ R.slots) (hv : mm_nO ci fs z M = some M') (hdg : decode cc pc = .ok (.new idx, 3))
    (kk : ∀ (H' : Heap), z + 1 ≤ H'.size → mm_R g A M' H' → va_S A s.heap H' locs → W p l e R s m args below meth c H' locs (cells + 1) (slots + N) Q (F0 m (pc + 3) ls (.ref z :: rest))) : W p l e R s m args below meth c H locs cells slots Q (F0 m pc ls rest) := by
  refine mm_hz hs0 hz hzc (fun hz' => ?_)
  refine mm_new C hR hS (by rw [hs0]; exact hA) hz' ty0 hc hin hty h1 h2 h3 hfs hcells hslots hdg (fun H' _ hz2 hR' hS' => ?_)
  cases hv
  exact kk H' (Nat.le_of_eq hz2.symm) hR' hS'
theorem mm_newA (C : mm_C g own cc nL p s m args meth c) (hR : mm_R g A M H) (hS : va_S A s.heap H locs) {sz0 : Nat} (hs0 : s.heap.size = sz0) (hA : ∀ q, sz0 ≤ q → A q) {z : Nat} (hz : z ≤ H.size) (hzc : sz0 + cells = z) {atype : ArrayType} {ty : FieldType} (hty : newarray.typeOf atype = ty) (h1 : Cond.arrayClass ty ∈ mm_gw) (ht : ∀ cA, s.vm.findClass ("[" ++ ty.toString) = some cA → cA = g.2 t) {n : Int32} {N' : Nat} (hd : defaultValue ty = .int 0)
    (hn : ¬ n < 0) (hN : n.toNatClampNeg = N') (hbytes : N' * componentBytes ty ≤ 536870912) (hcells : cells + 1 ≤ R.cells) (hslots : slots + N' ≤ R.slots) (hv : mm_nI t N' z M = some M') (hdg : decode cc pc = .ok (.newarray atype, 2))
    (kk : ∀ (H' : Heap), z + 1 ≤ H'.size → mm_R g A M' H' → va_S A s.heap H' locs → W p l e R s m args below meth c H' locs (cells + 1) (slots + N') Q (F0 m (pc + 2) ls (.ref z :: rest))) : W p l e R s m args below meth c H locs cells slots Q (F0 m pc ls (.int n :: rest)) := by
  refine mm_hz hs0 hz hzc (fun hz' => ?_)
  refine mm_newI C hR hS (by rw [hs0]; exact hA) hz' hty h1 ht hd hn hN hbytes hcells hslots hdg (fun H' _ hz2 hR' hS' => ?_)
  cases hv
  exact kk H' (Nat.le_of_eq hz2.symm) hR' hS'
theorem mm_newQ (C : mm_C g own cc nL p s m args meth c) (hR : mm_R g A M H) (hS : va_S A s.heap H locs) {sz0 : Nat} (hs0 : s.heap.size = sz0) (hA : ∀ q, sz0 ≤ q → A q) {z : Nat} (hz : z ≤ H.size) (hzc : sz0 + cells = z) {Cn : String} (hcl : Cond.classLink own idx Cn ∈ mm_gw) (hover : va_AO Cn s) (ht : ∀ cA, s.vm.findClass ("[" ++ (FieldType.object Cn).toString) = some cA → cA = g.2 t) {n : Int32} {N' : Nat}
    (hn : ¬ n < 0) (hN : n.toNatClampNeg = N') (hbytes : N' * 4 ≤ 536870912) (hcells : cells + 1 ≤ R.cells) (hslots : slots + N' ≤ R.slots) (hv : mm_nR t N' z M = some M') (hdg : decode cc pc = .ok (.anewarray idx, 3))
    (kk : ∀ (H' : Heap), z + 1 ≤ H'.size → mm_R g A M' H' → va_S A s.heap H' locs → W p l e R s m args below meth c H' locs (cells + 1) (slots + N') Q (F0 m (pc + 3) ls (.ref z :: rest))) : W p l e R s m args below meth c H locs cells slots Q (F0 m pc ls (.int n :: rest)) := by
  refine mm_hz hs0 hz hzc (fun hz' => ?_)
  refine mm_newq C hR hS (by rw [hs0]; exact hA) hz' hcl hover ht hn hN hbytes hcells hslots hdg (fun H' _ hz2 hR' hS' => ?_)
  cases hv
  exact kk H' (Nat.le_of_eq hz2.symm) hR' hS'
variable {y : MethodName} {bytes : ByteArray} {maxL n : Nat} {ret : Option FieldType} {rm : Room} {As : List Value} {M2 : mm_M}
theorem mm_callVvz (C : mm_C g own cc nL p s m args meth c) (hR : mm_R g A M H) (hS : va_S A s.heap H locs) (hsz : ls.size = nL) (vs : mm_VS own idx ci y bytes maxL ret n) {u : Unit} (hk : mm_ck ci M a = some u) (hM : Met l y (mm_ws y bytes maxL ret) rm (va_Pc (.ref a :: As) (mm_B g A M)) (mm_Tv g A M2) 0 0 A) (hrm : mm_rmok rm R maxL)
    (hn : As.length = n) (hw : (rest.map fun v => v.category).sum ≤ 8) (hf : cells ≤ R.cells ∧ slots ≤ R.slots) {st : List Value} (hst : st = As.reverse ++ .ref a :: rest) (hdg : decode cc pc = .ok (.invokevirtual idx, 3)) {z : Nat} (hz : z ≤ H.size)
    (kk : ∀ (H' : Heap) (locs' : List Loc), z ≤ H'.size → mm_R g A M2 H' → va_S A s.heap H' locs' → W p l e R s m args below meth c H' locs' cells slots Q (F0 m (pc + 3) ls rest)) : W p l e R s m args below meth c H locs cells slots Q (F0 m pc ls st) := by
  have C0 := C
  obtain ⟨hx, hb, hml, hown, hts, hK, hlk⟩ := C
  obtain ⟨⟨T, N, hc⟩, -⟩ := id vs
  refine va_callv (va_runV (As := As) (rest := rest) ⟨hx, hb, hml, hown, hts⟩ hM (mm_cwV C0 vs hrm) ⟨mm_blind, mm_recv hK hR hk hc, mm_pre hK hR _⟩ rfl hn hsz hst (lv_room hw) hdg hf) hS (fun q _ h => h) (fun _ h => h) (fun u t H1 locs1 ht hvm hw hB hz1 hk1 hS1 => ?_)
  exact kk H1 locs1 (Nat.le_trans hz hz1) (by rw [← ht]; exact hB) hS1
theorem mm_callSvz (C : mm_C g own cc nL p s m args meth c) (hR : mm_R g A M H) (hS : va_S A s.heap H locs) (hsz : ls.size = nL) (vs : mm_SS own idx y bytes maxL ret n) (hM : Met l y (mm_ws y bytes maxL ret) rm (va_Pc As (mm_B g A M)) (mm_Tv g A M2) 0 0 A) (hrm : mm_rmok rm R maxL)
    (hn : As.length = n) (hw : (rest.map fun v => v.category).sum ≤ 8) (hf : cells ≤ R.cells ∧ slots ≤ R.slots) {st : List Value} (hst : st = As.reverse ++ rest) (hdg : decode cc pc = .ok (.invokestatic idx, 3)) {z : Nat} (hz : z ≤ H.size)
    (kk : ∀ (H' : Heap) (locs' : List Loc), z ≤ H'.size → mm_R g A M2 H' → va_S A s.heap H' locs' → W p l e R s m args below meth c H' locs' cells slots Q (F0 m (pc + 3) ls rest)) : W p l e R s m args below meth c H locs cells slots Q (F0 m pc ls st) := by
  have C0 := C
  obtain ⟨hx, hb, hml, hown, hts, hK, hlk⟩ := C
  refine va_callv (va_runS (As := As) (rest := rest) ⟨hx, hb, hml, hown, hts⟩ hM (mm_cwS C0 vs hrm) ⟨mm_blind, mm_pre hK hR _⟩ rfl hn hsz hst (lv_room hw) hdg hf) hS (fun q _ h => h) (fun _ h => h) (fun u t H1 locs1 ht hvm hw hB hz1 hk1 hS1 => ?_)
  exact kk H1 locs1 (Nat.le_trans hz hz1) (by rw [← ht]; exact hB) hS1
-- returns, over what was computed
theorem mm_ire (C : mm_C g own cc nL p s m args meth c) (hR : mm_R g A M H) (hS : va_S A s.heap H locs) (hr : meth.sig.returnType = some .int) {v r : Int32} (hv : v = r) (hM : M = M') (hdg : decode cc pc = .ok (.ireturn, 1)) : W p l e R s m args below meth c H locs cells slots (MQ below (mm_Ti g A r M') args s cells slots A) (F0 m pc ls [.int v]) := by
  subst hv; subst hM
  exact mm_iret C hR hS hr hdg
theorem mm_zre (C : mm_C g own cc nL p s m args meth c) (hR : mm_R g A M H) (hS : va_S A s.heap H locs) (hr : meth.sig.returnType = some .boolean) {v r : Int32} (hb : v = 0 ∨ v = 1) (hv : v = r) (hM : M = M') (hdg : decode cc pc = .ok (.ireturn, 1)) : W p l e R s m args below meth c H locs cells slots (MQ below (mm_Ti g A r M') args s cells slots A) (F0 m pc ls [.int v]) := by
  subst hv; subst hM
  exact mm_zret C hR hS hr hb hdg
theorem mm_vre (C : mm_C g own cc nL p s m args meth c) (hR : mm_R g A M H) (hS : va_S A s.heap H locs) (hr : meth.sig.returnType = none) (hM : M = M') (hdg : decode cc pc = .ok (.return_, 1)) : W p l e R s m args below meth c H locs cells slots (MQ below (mm_Tv g A M') args s cells slots A) (F0 m pc ls []) := by
  subst hM
  exact mm_vret C hR hS hr hdg
theorem mm_vrz (C : mm_C g own cc nL p s m args meth c) (hR : mm_R g A M H) (hS : va_S A s.heap H locs) (hr : meth.sig.returnType = none) (hM : M = M') {sz z : Nat} (hs : s.heap.size = sz) (hz : z ≤ H.size) (h : sz + cells = z) (hdg : decode cc pc = .ok (.return_, 1)) : W p l e R s m args below meth c H locs cells slots (MQ below (mm_Tz g A M' z) args s cells slots A) (F0 m pc ls []) := by
  subst hM
  exact mm_hz hs hz h (fun hz' => mm_vretZ C hR hS hr hz' hdg)
theorem mm_are (C : mm_C g own cc nL p s m args meth c) (hR : mm_R g A M H) (hS : va_S A s.heap H locs) {Cn : String} (hr : meth.sig.returnType = some (.object Cn)) {v r : Option Nat} (hv : v = r) (hM : M = M') (hdg : decode cc pc = .ok (.areturn, 1)) : W p l e R s m args below meth c H locs cells slots (MQ below (mm_Tr g A r M') args s cells slots A) (F0 m pc ls [va_rf v]) := by
  subst hv; subst hM
  exact mm_aret C hR hS hr hdg
end MMZ
end
section
-- words and sites
theorem mw_1 : (Jvm.Cond.initialized "MosaicFloor") ∈ mm_gw := mm_gwI 46 (by decide +kernel) (by decide +kernel)
theorem mw_2 : (Jvm.Cond.initialized "MosaicFloor$State") ∈ mm_gw := mm_gwI 47 (by decide +kernel) (by decide +kernel)
theorem mw_3 : (Jvm.Cond.initialized "MosaicFloor$Plan") ∈ mm_gw := mm_gwI 48 (by decide +kernel) (by decide +kernel)
theorem mw_4 : (Jvm.Cond.initialized "java/util/Arrays") ∈ mm_gw := mm_gwI 49 (by decide +kernel) (by decide +kernel)
theorem mw_5 : (Jvm.Cond.initialized "MosaicFloor$Stock") ∈ mm_gw := mm_gwI 50 (by decide +kernel) (by decide +kernel)
theorem mw_6 : (Jvm.Cond.initialized "MosaicFloor$Strip") ∈ mm_gw := mm_gwI 51 (by decide +kernel) (by decide +kernel)
theorem mw_7 : (Jvm.Cond.initialized "MosaicFloor$History") ∈ mm_gw := mm_gwI 52 (by decide +kernel) (by decide +kernel)
theorem mw_8 : (Jvm.Cond.initialized "MosaicFloor$Text") ∈ mm_gw := mm_gwI 53 (by decide +kernel) (by decide +kernel)
theorem mw_9 : (Jvm.Cond.initialized "MosaicFloorModel") ∈ mm_gw := mm_gwI 54 (by decide +kernel) (by decide +kernel)
theorem mw_10 : (Jvm.Cond.initialized "java/lang/System") ∈ mm_gw := mm_gwI 55 (by decide +kernel) (by decide +kernel)
theorem mw_11 : (Jvm.Cond.initialized "java/lang/Math") ∈ mm_gw := mm_gwI 56 (by decide +kernel) (by decide +kernel)
theorem mw_17 : (Jvm.Cond.methodLink "MosaicFloor" (1 : Nat) ({ cls := "java/lang/Object", name := "<init>", desc := "()V" } : Jvm.MethodName)) ∈ mm_gw := mm_gwI 62 (by decide +kernel) (by decide +kernel)
theorem mw_18 : (Jvm.Cond.instanceMethod ({ cls := "java/lang/Object", name := "<init>", desc := "()V" } : Jvm.MethodName)) ∈ mm_gw := mm_gwI 63 (by decide +kernel) (by decide +kernel)
theorem mw_20 : (Jvm.Cond.classLink "MosaicFloor" (7 : Nat) "MosaicFloor$State") ∈ mm_gw := mm_gwI 65 (by decide +kernel) (by decide +kernel)
theorem mw_21 : (Jvm.Cond.instantiable "MosaicFloor$State" (4 : Nat)) ∈ mm_gw := mm_gwI 66 (by decide +kernel) (by decide +kernel)
theorem mw_22 : (Jvm.Cond.methodLink "MosaicFloor" (9 : Nat) ({ cls := "MosaicFloor$State", name := "<init>", desc := "()V" } : Jvm.MethodName)) ∈ mm_gw := mm_gwI 67 (by decide +kernel) (by decide +kernel)
theorem mw_23 : (Jvm.Cond.instanceMethod ({ cls := "MosaicFloor$State", name := "<init>", desc := "()V" } : Jvm.MethodName)) ∈ mm_gw := mm_gwI 68 (by decide +kernel) (by decide +kernel)
theorem mw_24 : (Jvm.Cond.code ({ cls := "MosaicFloor$State", name := "<init>", desc := "()V" } : Jvm.MethodName) prog_4_method_1_code (1 : Nat) (Option.none : Option Jvm.ClassFile.FieldType)) ∈ mm_gw := mm_gwI 69 (by decide +kernel) (by decide +kernel)
theorem mw_25 : (Jvm.Cond.methodLink "MosaicFloor$State" (3 : Nat) ({ cls := "java/lang/Object", name := "<init>", desc := "()V" } : Jvm.MethodName)) ∈ mm_gw := mm_gwI 70 (by decide +kernel) (by decide +kernel)
theorem mw_26 : (Jvm.Cond.classLink "MosaicFloor$State" (9 : Nat) "MosaicFloor$Plan") ∈ mm_gw := mm_gwI 71 (by decide +kernel) (by decide +kernel)
theorem mw_27 : (Jvm.Cond.instantiable "MosaicFloor$Plan" (6 : Nat)) ∈ mm_gw := mm_gwI 72 (by decide +kernel) (by decide +kernel)
theorem mw_28 : (Jvm.Cond.methodLink "MosaicFloor$State" (11 : Nat) ({ cls := "MosaicFloor$Plan", name := "<init>", desc := "()V" } : Jvm.MethodName)) ∈ mm_gw := mm_gwI 73 (by decide +kernel) (by decide +kernel)
theorem mw_29 : (Jvm.Cond.instanceMethod ({ cls := "MosaicFloor$Plan", name := "<init>", desc := "()V" } : Jvm.MethodName)) ∈ mm_gw := mm_gwI 74 (by decide +kernel) (by decide +kernel)
theorem mw_30 : (Jvm.Cond.code ({ cls := "MosaicFloor$Plan", name := "<init>", desc := "()V" } : Jvm.MethodName) prog_3_method_1_code (1 : Nat) (Option.none : Option Jvm.ClassFile.FieldType)) ∈ mm_gw := mm_gwI 75 (by decide +kernel) (by decide +kernel)
theorem mw_31 : (Jvm.Cond.methodLink "MosaicFloor$Plan" (3 : Nat) ({ cls := "java/lang/Object", name := "<init>", desc := "()V" } : Jvm.MethodName)) ∈ mm_gw := mm_gwI 76 (by decide +kernel) (by decide +kernel)
theorem mw_32 : (Jvm.Cond.methodLink "MosaicFloor$Plan" (25 : Nat) ({ cls := "MosaicFloor$Plan", name := "begin", desc := "(II)V" } : Jvm.MethodName)) ∈ mm_gw := mm_gwI 77 (by decide +kernel) (by decide +kernel)
theorem mw_33 : (Jvm.Cond.instanceMethod ({ cls := "MosaicFloor$Plan", name := "begin", desc := "(II)V" } : Jvm.MethodName)) ∈ mm_gw := mm_gwI 78 (by decide +kernel) (by decide +kernel)
theorem mw_35 : (Jvm.Cond.code ({ cls := "MosaicFloor$Plan", name := "begin", desc := "(II)V" } : Jvm.MethodName) prog_3_method_2_code (3 : Nat) (Option.none : Option Jvm.ClassFile.FieldType)) ∈ mm_gw := mm_gwI 80 (by decide +kernel) (by decide +kernel)
theorem mw_36 : (Jvm.Cond.methodLink "MosaicFloor$Plan" (35 : Nat) ({ cls := "java/util/Arrays", name := "fill", desc := "([II)V" } : Jvm.MethodName)) ∈ mm_gw := mm_gwI 81 (by decide +kernel) (by decide +kernel)
theorem mw_37 : (Jvm.Cond.static ({ cls := "java/util/Arrays", name := "fill", desc := "([II)V" } : Jvm.MethodName)) ∈ mm_gw := mm_gwI 82 (by decide +kernel) (by decide +kernel)
theorem mw_38 : (Jvm.Cond.code ({ cls := "java/util/Arrays", name := "fill", desc := "([II)V" } : Jvm.MethodName) prog_12_method_103_code (4 : Nat) (Option.none : Option Jvm.ClassFile.FieldType)) ∈ mm_gw := mm_gwI 83 (by decide +kernel) (by decide +kernel)
theorem mw_39 : (Jvm.Cond.fieldLink "MosaicFloor$Plan" (9 : Nat) "MosaicFloor$Plan" "fieldShades" "[I") ∈ mm_gw := mm_gwI 84 (by decide +kernel) (by decide +kernel)
theorem mw_40 : (Jvm.Cond.fieldLink "MosaicFloor$Plan" (15 : Nat) "MosaicFloor$Plan" "patternShades" "[I") ∈ mm_gw := mm_gwI 85 (by decide +kernel) (by decide +kernel)
theorem mw_41 : (Jvm.Cond.fieldLink "MosaicFloor$Plan" (18 : Nat) "MosaicFloor$Plan" "patternLength" "I") ∈ mm_gw := mm_gwI 86 (by decide +kernel) (by decide +kernel)
theorem mw_42 : (Jvm.Cond.fieldLink "MosaicFloor" (113 : Nat) "MosaicFloor$Plan" "patternLength" "I") ∈ mm_gw := mm_gwI 87 (by decide +kernel) (by decide +kernel)
theorem mw_43 : (Jvm.Cond.fieldLink "MosaicFloor$Plan" (22 : Nat) "MosaicFloor$Plan" "way" "I") ∈ mm_gw := mm_gwI 88 (by decide +kernel) (by decide +kernel)
theorem mw_44 : (Jvm.Cond.fieldLink "MosaicFloor" (69 : Nat) "MosaicFloor$Plan" "way" "I") ∈ mm_gw := mm_gwI 89 (by decide +kernel) (by decide +kernel)
theorem mw_45 : (Jvm.Cond.fieldLink "MosaicFloor$Plan" (29 : Nat) "MosaicFloor$Plan" "columns" "I") ∈ mm_gw := mm_gwI 90 (by decide +kernel) (by decide +kernel)
theorem mw_46 : (Jvm.Cond.fieldLink "MosaicFloor$State" (75 : Nat) "MosaicFloor$Plan" "columns" "I") ∈ mm_gw := mm_gwI 91 (by decide +kernel) (by decide +kernel)
theorem mw_47 : (Jvm.Cond.fieldLink "MosaicFloor" (220 : Nat) "MosaicFloor$Plan" "columns" "I") ∈ mm_gw := mm_gwI 92 (by decide +kernel) (by decide +kernel)
theorem mw_48 : (Jvm.Cond.fieldLink "MosaicFloor$Plan" (32 : Nat) "MosaicFloor$Plan" "rows" "I") ∈ mm_gw := mm_gwI 93 (by decide +kernel) (by decide +kernel)
theorem mw_49 : (Jvm.Cond.fieldLink "MosaicFloor$State" (72 : Nat) "MosaicFloor$Plan" "rows" "I") ∈ mm_gw := mm_gwI 94 (by decide +kernel) (by decide +kernel)
theorem mw_50 : (Jvm.Cond.fieldLink "MosaicFloor" (223 : Nat) "MosaicFloor$Plan" "rows" "I") ∈ mm_gw := mm_gwI 95 (by decide +kernel) (by decide +kernel)
theorem mw_64 : (Jvm.Cond.arrayClass Jvm.ClassFile.FieldType.int) ∈ mm_gw := mm_gwI 109 (by decide +kernel) (by decide +kernel)
theorem mw_65 : (Jvm.Cond.classLink "MosaicFloor$State" (18 : Nat) "MosaicFloor$Stock") ∈ mm_gw := mm_gwI 110 (by decide +kernel) (by decide +kernel)
theorem mw_66 : (Jvm.Cond.instantiable "MosaicFloor$Stock" (9 : Nat)) ∈ mm_gw := mm_gwI 111 (by decide +kernel) (by decide +kernel)
theorem mw_67 : (Jvm.Cond.methodLink "MosaicFloor$State" (20 : Nat) ({ cls := "MosaicFloor$Stock", name := "<init>", desc := "()V" } : Jvm.MethodName)) ∈ mm_gw := mm_gwI 112 (by decide +kernel) (by decide +kernel)
theorem mw_68 : (Jvm.Cond.instanceMethod ({ cls := "MosaicFloor$Stock", name := "<init>", desc := "()V" } : Jvm.MethodName)) ∈ mm_gw := mm_gwI 113 (by decide +kernel) (by decide +kernel)
theorem mw_69 : (Jvm.Cond.code ({ cls := "MosaicFloor$Stock", name := "<init>", desc := "()V" } : Jvm.MethodName) prog_5_method_1_code (2 : Nat) (Option.none : Option Jvm.ClassFile.FieldType)) ∈ mm_gw := mm_gwI 114 (by decide +kernel) (by decide +kernel)
theorem mw_70 : (Jvm.Cond.methodLink "MosaicFloor$Stock" (3 : Nat) ({ cls := "java/lang/Object", name := "<init>", desc := "()V" } : Jvm.MethodName)) ∈ mm_gw := mm_gwI 115 (by decide +kernel) (by decide +kernel)
theorem mw_71 : (Jvm.Cond.classLink "MosaicFloor$Stock" (9 : Nat) "MosaicFloor$Strip") ∈ mm_gw := mm_gwI 116 (by decide +kernel) (by decide +kernel)
theorem mw_73 : (Jvm.Cond.instantiable "MosaicFloor$Strip" (6 : Nat)) ∈ mm_gw := mm_gwI 118 (by decide +kernel) (by decide +kernel)
theorem mw_75 : (Jvm.Cond.instanceMethod ({ cls := "MosaicFloor$Strip", name := "<init>", desc := "()V" } : Jvm.MethodName)) ∈ mm_gw := mm_gwI 120 (by decide +kernel) (by decide +kernel)
theorem mw_76 : (Jvm.Cond.code ({ cls := "MosaicFloor$Strip", name := "<init>", desc := "()V" } : Jvm.MethodName) prog_6_method_1_code (1 : Nat) (Option.none : Option Jvm.ClassFile.FieldType)) ∈ mm_gw := mm_gwI 121 (by decide +kernel) (by decide +kernel)
theorem mw_77 : (Jvm.Cond.methodLink "MosaicFloor$Strip" (3 : Nat) ({ cls := "java/lang/Object", name := "<init>", desc := "()V" } : Jvm.MethodName)) ∈ mm_gw := mm_gwI 122 (by decide +kernel) (by decide +kernel)
theorem mw_78 : (Jvm.Cond.fieldLink "MosaicFloor$Strip" (9 : Nat) "MosaicFloor$Strip" "flaws" "[I") ∈ mm_gw := mm_gwI 123 (by decide +kernel) (by decide +kernel)
theorem mw_79 : (Jvm.Cond.fieldLink "MosaicFloor$Strip" (25 : Nat) "MosaicFloor$Strip" "flawCount" "I") ∈ mm_gw := mm_gwI 124 (by decide +kernel) (by decide +kernel)
theorem mw_80 : (Jvm.Cond.fieldLink "MosaicFloor" (152 : Nat) "MosaicFloor$Strip" "flawCount" "I") ∈ mm_gw := mm_gwI 125 (by decide +kernel) (by decide +kernel)
theorem mw_81 : (Jvm.Cond.fieldLink "MosaicFloor$Strip" (15 : Nat) "MosaicFloor$Strip" "length" "I") ∈ mm_gw := mm_gwI 126 (by decide +kernel) (by decide +kernel)
theorem mw_82 : (Jvm.Cond.fieldLink "MosaicFloor$Stock" (58 : Nat) "MosaicFloor$Strip" "length" "I") ∈ mm_gw := mm_gwI 127 (by decide +kernel) (by decide +kernel)
theorem mw_83 : (Jvm.Cond.fieldLink "MosaicFloor" (146 : Nat) "MosaicFloor$Strip" "length" "I") ∈ mm_gw := mm_gwI 128 (by decide +kernel) (by decide +kernel)
theorem mw_84 : (Jvm.Cond.fieldLink "MosaicFloor$Strip" (19 : Nat) "MosaicFloor$Strip" "shade" "I") ∈ mm_gw := mm_gwI 129 (by decide +kernel) (by decide +kernel)
theorem mw_85 : (Jvm.Cond.fieldLink "MosaicFloor$Stock" (82 : Nat) "MosaicFloor$Strip" "shade" "I") ∈ mm_gw := mm_gwI 130 (by decide +kernel) (by decide +kernel)
theorem mw_86 : (Jvm.Cond.fieldLink "MosaicFloor" (169 : Nat) "MosaicFloor$Strip" "shade" "I") ∈ mm_gw := mm_gwI 131 (by decide +kernel) (by decide +kernel)
theorem mw_87 : (Jvm.Cond.fieldLink "MosaicFloor$Strip" (22 : Nat) "MosaicFloor$Strip" "start" "I") ∈ mm_gw := mm_gwI 132 (by decide +kernel) (by decide +kernel)
theorem mw_88 : (Jvm.Cond.fieldLink "MosaicFloor" (141 : Nat) "MosaicFloor$Strip" "start" "I") ∈ mm_gw := mm_gwI 133 (by decide +kernel) (by decide +kernel)
theorem mw_89 : (Jvm.Cond.fieldLink "MosaicFloor$Strip" (28 : Nat) "MosaicFloor$Strip" "goodCut" "I") ∈ mm_gw := mm_gwI 134 (by decide +kernel) (by decide +kernel)
theorem mw_90 : (Jvm.Cond.fieldLink "MosaicFloor" (181 : Nat) "MosaicFloor$Strip" "goodCut" "I") ∈ mm_gw := mm_gwI 135 (by decide +kernel) (by decide +kernel)
theorem mw_104 : (Jvm.Cond.fieldLink "MosaicFloor$Stock" (11 : Nat) "MosaicFloor$Stock" "strips" "[LMosaicFloor$Strip;") ∈ mm_gw := mm_gwI 149 (by decide +kernel) (by decide +kernel)
theorem mw_105 : (Jvm.Cond.fieldLink "MosaicFloor$Stock" (17 : Nat) "MosaicFloor$Stock" "atHand" "[I") ∈ mm_gw := mm_gwI 150 (by decide +kernel) (by decide +kernel)
theorem mw_106 : (Jvm.Cond.fieldLink "MosaicFloor$Stock" (39 : Nat) "MosaicFloor$Stock" "stripCount" "I") ∈ mm_gw := mm_gwI 151 (by decide +kernel) (by decide +kernel)
theorem mw_107 : (Jvm.Cond.fieldLink "MosaicFloor" (129 : Nat) "MosaicFloor$Stock" "stripCount" "I") ∈ mm_gw := mm_gwI 152 (by decide +kernel) (by decide +kernel)
theorem mw_108 : (Jvm.Cond.fieldLink "MosaicFloor$Stock" (21 : Nat) "MosaicFloor$Stock" "size" "I") ∈ mm_gw := mm_gwI 153 (by decide +kernel) (by decide +kernel)
theorem mw_109 : (Jvm.Cond.fieldLink "MosaicFloor" (162 : Nat) "MosaicFloor$Stock" "size" "I") ∈ mm_gw := mm_gwI 154 (by decide +kernel) (by decide +kernel)
theorem mw_110 : (Jvm.Cond.fieldLink "MosaicFloor$Stock" (25 : Nat) "MosaicFloor$Stock" "loss" "I") ∈ mm_gw := mm_gwI 155 (by decide +kernel) (by decide +kernel)
theorem mw_111 : (Jvm.Cond.fieldLink "MosaicFloor" (172 : Nat) "MosaicFloor$Stock" "loss" "I") ∈ mm_gw := mm_gwI 156 (by decide +kernel) (by decide +kernel)
theorem mw_112 : (Jvm.Cond.fieldLink "MosaicFloor$Stock" (42 : Nat) "MosaicFloor$Stock" "brokenCount" "I") ∈ mm_gw := mm_gwI 157 (by decide +kernel) (by decide +kernel)
theorem mw_113 : (Jvm.Cond.fieldLink "MosaicFloor" (239 : Nat) "MosaicFloor$Stock" "brokenCount" "I") ∈ mm_gw := mm_gwI 158 (by decide +kernel) (by decide +kernel)
theorem mw_114 : (Jvm.Cond.fieldLink "MosaicFloor$Stock" (45 : Nat) "MosaicFloor$Stock" "brokenLength" "I") ∈ mm_gw := mm_gwI 159 (by decide +kernel) (by decide +kernel)
theorem mw_115 : (Jvm.Cond.fieldLink "MosaicFloor" (251 : Nat) "MosaicFloor$Stock" "brokenLength" "I") ∈ mm_gw := mm_gwI 160 (by decide +kernel) (by decide +kernel)
theorem mw_116 : (Jvm.Cond.fieldLink "MosaicFloor$Stock" (48 : Nat) "MosaicFloor$Stock" "sawnLength" "I") ∈ mm_gw := mm_gwI 161 (by decide +kernel) (by decide +kernel)
theorem mw_117 : (Jvm.Cond.fieldLink "MosaicFloor" (254 : Nat) "MosaicFloor$Stock" "sawnLength" "I") ∈ mm_gw := mm_gwI 162 (by decide +kernel) (by decide +kernel)
theorem mw_118 : (Jvm.Cond.fieldLink "MosaicFloor$Stock" (51 : Nat) "MosaicFloor$Stock" "thrownLength" "I") ∈ mm_gw := mm_gwI 163 (by decide +kernel) (by decide +kernel)
theorem mw_119 : (Jvm.Cond.fieldLink "MosaicFloor" (257 : Nat) "MosaicFloor$Stock" "thrownLength" "I") ∈ mm_gw := mm_gwI 164 (by decide +kernel) (by decide +kernel)
theorem mw_139 : (Jvm.Cond.methodLink "MosaicFloor$State" (29 : Nat) ({ cls := "java/util/Arrays", name := "fill", desc := "([II)V" } : Jvm.MethodName)) ∈ mm_gw := mm_gwI 184 (by decide +kernel) (by decide +kernel)
theorem mw_140 : (Jvm.Cond.fieldLink "MosaicFloor$State" (12 : Nat) "MosaicFloor$State" "plan" "LMosaicFloor$Plan;") ∈ mm_gw := mm_gwI 185 (by decide +kernel) (by decide +kernel)
theorem mw_141 : (Jvm.Cond.fieldLink "MosaicFloor" (45 : Nat) "MosaicFloor$State" "plan" "LMosaicFloor$Plan;") ∈ mm_gw := mm_gwI 186 (by decide +kernel) (by decide +kernel)
theorem mw_142 : (Jvm.Cond.fieldLink "MosaicFloor$State" (21 : Nat) "MosaicFloor$State" "stock" "LMosaicFloor$Stock;") ∈ mm_gw := mm_gwI 187 (by decide +kernel) (by decide +kernel)
theorem mw_143 : (Jvm.Cond.fieldLink "MosaicFloor" (125 : Nat) "MosaicFloor$State" "stock" "LMosaicFloor$Stock;") ∈ mm_gw := mm_gwI 188 (by decide +kernel) (by decide +kernel)
theorem mw_144 : (Jvm.Cond.fieldLink "MosaicFloor$State" (25 : Nat) "MosaicFloor$State" "laid" "[I") ∈ mm_gw := mm_gwI 189 (by decide +kernel) (by decide +kernel)
theorem mw_145 : (Jvm.Cond.fieldLink "MosaicFloor$State" (48 : Nat) "MosaicFloor$State" "liftedCount" "I") ∈ mm_gw := mm_gwI 190 (by decide +kernel) (by decide +kernel)
theorem mw_146 : (Jvm.Cond.fieldLink "MosaicFloor" (242 : Nat) "MosaicFloor$State" "liftedCount" "I") ∈ mm_gw := mm_gwI 191 (by decide +kernel) (by decide +kernel)
theorem mw_156 : (Jvm.Cond.classLink "MosaicFloor" (19 : Nat) "MosaicFloor$History") ∈ mm_gw := mm_gwI 201 (by decide +kernel) (by decide +kernel)
theorem mw_157 : (Jvm.Cond.instantiable "MosaicFloor$History" (2 : Nat)) ∈ mm_gw := mm_gwI 202 (by decide +kernel) (by decide +kernel)
theorem mw_158 : (Jvm.Cond.methodLink "MosaicFloor" (21 : Nat) ({ cls := "MosaicFloor$History", name := "<init>", desc := "()V" } : Jvm.MethodName)) ∈ mm_gw := mm_gwI 203 (by decide +kernel) (by decide +kernel)
theorem mw_159 : (Jvm.Cond.instanceMethod ({ cls := "MosaicFloor$History", name := "<init>", desc := "()V" } : Jvm.MethodName)) ∈ mm_gw := mm_gwI 204 (by decide +kernel) (by decide +kernel)
theorem mw_160 : (Jvm.Cond.code ({ cls := "MosaicFloor$History", name := "<init>", desc := "()V" } : Jvm.MethodName) prog_2_method_1_code (2 : Nat) (Option.none : Option Jvm.ClassFile.FieldType)) ∈ mm_gw := mm_gwI 205 (by decide +kernel) (by decide +kernel)
theorem mw_161 : (Jvm.Cond.methodLink "MosaicFloor$History" (3 : Nat) ({ cls := "java/lang/Object", name := "<init>", desc := "()V" } : Jvm.MethodName)) ∈ mm_gw := mm_gwI 206 (by decide +kernel) (by decide +kernel)
theorem mw_162 : (Jvm.Cond.classLink "MosaicFloor$History" (9 : Nat) "MosaicFloor$State") ∈ mm_gw := mm_gwI 207 (by decide +kernel) (by decide +kernel)
theorem mw_164 : (Jvm.Cond.methodLink "MosaicFloor$History" (17 : Nat) ({ cls := "MosaicFloor$State", name := "<init>", desc := "()V" } : Jvm.MethodName)) ∈ mm_gw := mm_gwI 209 (by decide +kernel) (by decide +kernel)
theorem mw_165 : (Jvm.Cond.fieldLink "MosaicFloor$History" (11 : Nat) "MosaicFloor$History" "states" "[LMosaicFloor$State;") ∈ mm_gw := mm_gwI 210 (by decide +kernel) (by decide +kernel)
theorem mw_166 : (Jvm.Cond.fieldLink "MosaicFloor$History" (18 : Nat) "MosaicFloor$History" "used" "I") ∈ mm_gw := mm_gwI 211 (by decide +kernel) (by decide +kernel)
theorem mw_172 : (Jvm.Cond.classLink "MosaicFloor" (26 : Nat) "MosaicFloor$Text") ∈ mm_gw := mm_gwI 217 (by decide +kernel) (by decide +kernel)
theorem mw_173 : (Jvm.Cond.instantiable "MosaicFloor$Text" (2 : Nat)) ∈ mm_gw := mm_gwI 218 (by decide +kernel) (by decide +kernel)
theorem mw_175 : (Jvm.Cond.instanceMethod ({ cls := "MosaicFloor$Text", name := "<init>", desc := "()V" } : Jvm.MethodName)) ∈ mm_gw := mm_gwI 220 (by decide +kernel) (by decide +kernel)
theorem mw_176 : (Jvm.Cond.code ({ cls := "MosaicFloor$Text", name := "<init>", desc := "()V" } : Jvm.MethodName) prog_7_method_1_code (1 : Nat) (Option.none : Option Jvm.ClassFile.FieldType)) ∈ mm_gw := mm_gwI 221 (by decide +kernel) (by decide +kernel)
theorem mw_177 : (Jvm.Cond.methodLink "MosaicFloor$Text" (3 : Nat) ({ cls := "java/lang/Object", name := "<init>", desc := "()V" } : Jvm.MethodName)) ∈ mm_gw := mm_gwI 222 (by decide +kernel) (by decide +kernel)
theorem mw_178 : (Jvm.Cond.fieldLink "MosaicFloor$Text" (9 : Nat) "MosaicFloor$Text" "characters" "[C") ∈ mm_gw := mm_gwI 223 (by decide +kernel) (by decide +kernel)
theorem mw_179 : (Jvm.Cond.fieldLink "MosaicFloor$Text" (15 : Nat) "MosaicFloor$Text" "length" "I") ∈ mm_gw := mm_gwI 224 (by decide +kernel) (by decide +kernel)
theorem mw_180 : (Jvm.Cond.fieldLink "MosaicFloor" (213 : Nat) "MosaicFloor$Text" "length" "I") ∈ mm_gw := mm_gwI 225 (by decide +kernel) (by decide +kernel)
theorem mw_186 : (Jvm.Cond.arrayClass Jvm.ClassFile.FieldType.char) ∈ mm_gw := mm_gwI 231 (by decide +kernel) (by decide +kernel)
theorem mw_187 : (Jvm.Cond.fieldLink "MosaicFloor" (10 : Nat) "MosaicFloor" "now" "LMosaicFloor$State;") ∈ mm_gw := mm_gwI 232 (by decide +kernel) (by decide +kernel)
theorem mw_188 : (Jvm.Cond.fieldLink "MosaicFloor" (16 : Nat) "MosaicFloor" "trial" "LMosaicFloor$State;") ∈ mm_gw := mm_gwI 233 (by decide +kernel) (by decide +kernel)
theorem mw_189 : (Jvm.Cond.fieldLink "MosaicFloor" (22 : Nat) "MosaicFloor" "history" "LMosaicFloor$History;") ∈ mm_gw := mm_gwI 234 (by decide +kernel) (by decide +kernel)
theorem mw_190 : (Jvm.Cond.fieldLink "MosaicFloor" (29 : Nat) "MosaicFloor" "text" "LMosaicFloor$Text;") ∈ mm_gw := mm_gwI 235 (by decide +kernel) (by decide +kernel)
theorem mw_204 : (Jvm.Cond.methodLink "MosaicFloor" (33 : Nat) ({ cls := "MosaicFloor", name := "isWithin", desc := "(III)Z" } : Jvm.MethodName)) ∈ mm_gw := mm_gwI 249 (by decide +kernel) (by decide +kernel)
theorem mw_205 : (Jvm.Cond.static ({ cls := "MosaicFloor", name := "isWithin", desc := "(III)Z" } : Jvm.MethodName)) ∈ mm_gw := mm_gwI 250 (by decide +kernel) (by decide +kernel)
theorem mw_206 : (Jvm.Cond.code ({ cls := "MosaicFloor", name := "isWithin", desc := "(III)Z" } : Jvm.MethodName) prog_1_method_26_code (3 : Nat) (Option.some Jvm.ClassFile.FieldType.boolean)) ∈ mm_gw := mm_gwI 251 (by decide +kernel) (by decide +kernel)
theorem mw_207 : (Jvm.Cond.methodLink "MosaicFloor" (37 : Nat) ({ cls := "MosaicFloor$State", name := "laidCells", desc := "()I" } : Jvm.MethodName)) ∈ mm_gw := mm_gwI 252 (by decide +kernel) (by decide +kernel)
theorem mw_208 : (Jvm.Cond.instanceMethod ({ cls := "MosaicFloor$State", name := "laidCells", desc := "()I" } : Jvm.MethodName)) ∈ mm_gw := mm_gwI 253 (by decide +kernel) (by decide +kernel)
theorem mw_210 : (Jvm.Cond.code ({ cls := "MosaicFloor$State", name := "laidCells", desc := "()I" } : Jvm.MethodName) prog_4_method_7_code (6 : Nat) (Option.some Jvm.ClassFile.FieldType.int)) ∈ mm_gw := mm_gwI 255 (by decide +kernel) (by decide +kernel)
theorem mw_211 : (Jvm.Cond.methodLink "MosaicFloor" (41 : Nat) ({ cls := "MosaicFloor$History", name := "keep", desc := "(LMosaicFloor$State;)V" } : Jvm.MethodName)) ∈ mm_gw := mm_gwI 256 (by decide +kernel) (by decide +kernel)
theorem mw_212 : (Jvm.Cond.instanceMethod ({ cls := "MosaicFloor$History", name := "keep", desc := "(LMosaicFloor$State;)V" } : Jvm.MethodName)) ∈ mm_gw := mm_gwI 257 (by decide +kernel) (by decide +kernel)
theorem mw_214 : (Jvm.Cond.code ({ cls := "MosaicFloor$History", name := "keep", desc := "(LMosaicFloor$State;)V" } : Jvm.MethodName) prog_2_method_3_code (2 : Nat) (Option.none : Option Jvm.ClassFile.FieldType)) ∈ mm_gw := mm_gwI 259 (by decide +kernel) (by decide +kernel)
theorem mw_215 : (Jvm.Cond.methodLink "MosaicFloor$History" (22 : Nat) ({ cls := "MosaicFloor$History", name := "dropOldest", desc := "()V" } : Jvm.MethodName)) ∈ mm_gw := mm_gwI 260 (by decide +kernel) (by decide +kernel)
theorem mw_217 : (Jvm.Cond.instanceMethod ({ cls := "MosaicFloor$History", name := "dropOldest", desc := "()V" } : Jvm.MethodName)) ∈ mm_gw := mm_gwI 262 (by decide +kernel) (by decide +kernel)
theorem mw_218 : (Jvm.Cond.code ({ cls := "MosaicFloor$History", name := "dropOldest", desc := "()V" } : Jvm.MethodName) prog_2_method_4_code (3 : Nat) (Option.none : Option Jvm.ClassFile.FieldType)) ∈ mm_gw := mm_gwI 263 (by decide +kernel) (by decide +kernel)
theorem mw_219 : (Jvm.Cond.methodLink "MosaicFloor$History" (25 : Nat) ({ cls := "MosaicFloor$State", name := "copyFrom", desc := "(LMosaicFloor$State;)V" } : Jvm.MethodName)) ∈ mm_gw := mm_gwI 264 (by decide +kernel) (by decide +kernel)
theorem mw_220 : (Jvm.Cond.instanceMethod ({ cls := "MosaicFloor$State", name := "copyFrom", desc := "(LMosaicFloor$State;)V" } : Jvm.MethodName)) ∈ mm_gw := mm_gwI 265 (by decide +kernel) (by decide +kernel)
theorem mw_222 : (Jvm.Cond.code ({ cls := "MosaicFloor$State", name := "copyFrom", desc := "(LMosaicFloor$State;)V" } : Jvm.MethodName) prog_4_method_2_code (2 : Nat) (Option.none : Option Jvm.ClassFile.FieldType)) ∈ mm_gw := mm_gwI 267 (by decide +kernel) (by decide +kernel)
theorem mw_223 : (Jvm.Cond.methodLink "MosaicFloor$State" (35 : Nat) ({ cls := "MosaicFloor$Plan", name := "copyFrom", desc := "(LMosaicFloor$Plan;)V" } : Jvm.MethodName)) ∈ mm_gw := mm_gwI 268 (by decide +kernel) (by decide +kernel)
theorem mw_224 : (Jvm.Cond.instanceMethod ({ cls := "MosaicFloor$Plan", name := "copyFrom", desc := "(LMosaicFloor$Plan;)V" } : Jvm.MethodName)) ∈ mm_gw := mm_gwI 269 (by decide +kernel) (by decide +kernel)
theorem mw_226 : (Jvm.Cond.code ({ cls := "MosaicFloor$Plan", name := "copyFrom", desc := "(LMosaicFloor$Plan;)V" } : Jvm.MethodName) prog_3_method_3_code (2 : Nat) (Option.none : Option Jvm.ClassFile.FieldType)) ∈ mm_gw := mm_gwI 271 (by decide +kernel) (by decide +kernel)
theorem mw_227 : (Jvm.Cond.methodLink "MosaicFloor$Plan" (41 : Nat) ({ cls := "java/lang/System", name := "arraycopy", desc := "(Ljava/lang/Object;ILjava/lang/Object;II)V" } : Jvm.MethodName)) ∈ mm_gw := mm_gwI 272 (by decide +kernel) (by decide +kernel)
theorem mw_228 : (Jvm.Cond.static ({ cls := "java/lang/System", name := "arraycopy", desc := "(Ljava/lang/Object;ILjava/lang/Object;II)V" } : Jvm.MethodName)) ∈ mm_gw := mm_gwI 273 (by decide +kernel) (by decide +kernel)
theorem mw_229 : (Jvm.Cond.native ({ cls := "java/lang/System", name := "arraycopy", desc := "(Ljava/lang/Object;ILjava/lang/Object;II)V" } : Jvm.MethodName)) ∈ mm_gw := mm_gwI 274 (by decide +kernel) (by decide +kernel)
theorem mw_230 : (Jvm.Cond.methodLink "MosaicFloor$State" (39 : Nat) ({ cls := "MosaicFloor$Stock", name := "copyFrom", desc := "(LMosaicFloor$Stock;)V" } : Jvm.MethodName)) ∈ mm_gw := mm_gwI 275 (by decide +kernel) (by decide +kernel)
theorem mw_231 : (Jvm.Cond.instanceMethod ({ cls := "MosaicFloor$Stock", name := "copyFrom", desc := "(LMosaicFloor$Stock;)V" } : Jvm.MethodName)) ∈ mm_gw := mm_gwI 276 (by decide +kernel) (by decide +kernel)
theorem mw_233 : (Jvm.Cond.code ({ cls := "MosaicFloor$Stock", name := "copyFrom", desc := "(LMosaicFloor$Stock;)V" } : Jvm.MethodName) prog_5_method_2_code (3 : Nat) (Option.none : Option Jvm.ClassFile.FieldType)) ∈ mm_gw := mm_gwI 278 (by decide +kernel) (by decide +kernel)
theorem mw_234 : (Jvm.Cond.methodLink "MosaicFloor$Stock" (29 : Nat) ({ cls := "MosaicFloor$Strip", name := "copyFrom", desc := "(LMosaicFloor$Strip;)V" } : Jvm.MethodName)) ∈ mm_gw := mm_gwI 279 (by decide +kernel) (by decide +kernel)
theorem mw_235 : (Jvm.Cond.instanceMethod ({ cls := "MosaicFloor$Strip", name := "copyFrom", desc := "(LMosaicFloor$Strip;)V" } : Jvm.MethodName)) ∈ mm_gw := mm_gwI 280 (by decide +kernel) (by decide +kernel)
theorem mw_237 : (Jvm.Cond.code ({ cls := "MosaicFloor$Strip", name := "copyFrom", desc := "(LMosaicFloor$Strip;)V" } : Jvm.MethodName) prog_6_method_3_code (2 : Nat) (Option.none : Option Jvm.ClassFile.FieldType)) ∈ mm_gw := mm_gwI 282 (by decide +kernel) (by decide +kernel)
theorem mw_238 : (Jvm.Cond.methodLink "MosaicFloor$Strip" (31 : Nat) ({ cls := "java/lang/System", name := "arraycopy", desc := "(Ljava/lang/Object;ILjava/lang/Object;II)V" } : Jvm.MethodName)) ∈ mm_gw := mm_gwI 283 (by decide +kernel) (by decide +kernel)
theorem mw_239 : (Jvm.Cond.methodLink "MosaicFloor$Stock" (33 : Nat) ({ cls := "java/lang/System", name := "arraycopy", desc := "(Ljava/lang/Object;ILjava/lang/Object;II)V" } : Jvm.MethodName)) ∈ mm_gw := mm_gwI 284 (by decide +kernel) (by decide +kernel)
theorem mw_240 : (Jvm.Cond.methodLink "MosaicFloor$State" (42 : Nat) ({ cls := "java/lang/System", name := "arraycopy", desc := "(Ljava/lang/Object;ILjava/lang/Object;II)V" } : Jvm.MethodName)) ∈ mm_gw := mm_gwI 285 (by decide +kernel) (by decide +kernel)
theorem mw_241 : (Jvm.Cond.methodLink "MosaicFloor" (49 : Nat) ({ cls := "MosaicFloor$Plan", name := "begin", desc := "(II)V" } : Jvm.MethodName)) ∈ mm_gw := mm_gwI 286 (by decide +kernel) (by decide +kernel)
theorem mw_246 : (Jvm.Cond.methodLink "MosaicFloor" (55 : Nat) ({ cls := "MosaicFloor", name := "changeSize", desc := "(I)I" } : Jvm.MethodName)) ∈ mm_gw := mm_gwI 291 (by decide +kernel) (by decide +kernel)
theorem mw_248 : (Jvm.Cond.instanceMethod ({ cls := "MosaicFloor", name := "changeSize", desc := "(I)I" } : Jvm.MethodName)) ∈ mm_gw := mm_gwI 293 (by decide +kernel) (by decide +kernel)
theorem mw_249 : (Jvm.Cond.code ({ cls := "MosaicFloor", name := "changeSize", desc := "(I)I" } : Jvm.MethodName) prog_1_method_28_code (3 : Nat) (Option.some Jvm.ClassFile.FieldType.int)) ∈ mm_gw := mm_gwI 294 (by decide +kernel) (by decide +kernel)
theorem mw_250 : (Jvm.Cond.methodLink "MosaicFloor" (217 : Nat) ({ cls := "MosaicFloor$Stock", name := "throwAway", desc := "()V" } : Jvm.MethodName)) ∈ mm_gw := mm_gwI 295 (by decide +kernel) (by decide +kernel)
theorem mw_251 : (Jvm.Cond.instanceMethod ({ cls := "MosaicFloor$Stock", name := "throwAway", desc := "()V" } : Jvm.MethodName)) ∈ mm_gw := mm_gwI 296 (by decide +kernel) (by decide +kernel)
theorem mw_253 : (Jvm.Cond.code ({ cls := "MosaicFloor$Stock", name := "throwAway", desc := "()V" } : Jvm.MethodName) prog_5_method_12_code (1 : Nat) (Option.none : Option Jvm.ClassFile.FieldType)) ∈ mm_gw := mm_gwI 298 (by decide +kernel) (by decide +kernel)
theorem mw_254 : (Jvm.Cond.methodLink "MosaicFloor$Stock" (73 : Nat) ({ cls := "MosaicFloor$Stock", name := "tesseraeAtHand", desc := "()I" } : Jvm.MethodName)) ∈ mm_gw := mm_gwI 299 (by decide +kernel) (by decide +kernel)
theorem mw_255 : (Jvm.Cond.instanceMethod ({ cls := "MosaicFloor$Stock", name := "tesseraeAtHand", desc := "()I" } : Jvm.MethodName)) ∈ mm_gw := mm_gwI 300 (by decide +kernel) (by decide +kernel)
theorem mw_257 : (Jvm.Cond.code ({ cls := "MosaicFloor$Stock", name := "tesseraeAtHand", desc := "()I" } : Jvm.MethodName) prog_5_method_7_code (6 : Nat) (Option.some Jvm.ClassFile.FieldType.int)) ∈ mm_gw := mm_gwI 302 (by decide +kernel) (by decide +kernel)
theorem mw_258 : (Jvm.Cond.methodLink "MosaicFloor$Stock" (76 : Nat) ({ cls := "java/util/Arrays", name := "fill", desc := "([II)V" } : Jvm.MethodName)) ∈ mm_gw := mm_gwI 303 (by decide +kernel) (by decide +kernel)
theorem mw_259 : (Jvm.Cond.methodLink "MosaicFloor" (59 : Nat) ({ cls := "MosaicFloor", name := "changeLoss", desc := "(I)I" } : Jvm.MethodName)) ∈ mm_gw := mm_gwI 304 (by decide +kernel) (by decide +kernel)
theorem mw_261 : (Jvm.Cond.instanceMethod ({ cls := "MosaicFloor", name := "changeLoss", desc := "(I)I" } : Jvm.MethodName)) ∈ mm_gw := mm_gwI 306 (by decide +kernel) (by decide +kernel)
theorem mw_262 : (Jvm.Cond.code ({ cls := "MosaicFloor", name := "changeLoss", desc := "(I)I" } : Jvm.MethodName) prog_1_method_29_code (3 : Nat) (Option.some Jvm.ClassFile.FieldType.int)) ∈ mm_gw := mm_gwI 307 (by decide +kernel) (by decide +kernel)
theorem mw_267 : (Jvm.Cond.methodLink "MosaicFloor" (62 : Nat) ({ cls := "MosaicFloor$Text", name := "firstFaultOrNone", desc := "()I" } : Jvm.MethodName)) ∈ mm_gw := mm_gwI 312 (by decide +kernel) (by decide +kernel)
theorem mw_268 : (Jvm.Cond.instanceMethod ({ cls := "MosaicFloor$Text", name := "firstFaultOrNone", desc := "()I" } : Jvm.MethodName)) ∈ mm_gw := mm_gwI 313 (by decide +kernel) (by decide +kernel)
theorem mw_270 : (Jvm.Cond.code ({ cls := "MosaicFloor$Text", name := "firstFaultOrNone", desc := "()I" } : Jvm.MethodName) prog_7_method_3_code (5 : Nat) (Option.some Jvm.ClassFile.FieldType.int)) ∈ mm_gw := mm_gwI 315 (by decide +kernel) (by decide +kernel)
theorem mw_271 : (Jvm.Cond.methodLink "MosaicFloor$Text" (19 : Nat) ({ cls := "MosaicFloor$Text", name := "isDigit", desc := "(C)Z" } : Jvm.MethodName)) ∈ mm_gw := mm_gwI 316 (by decide +kernel) (by decide +kernel)
theorem mw_272 : (Jvm.Cond.static ({ cls := "MosaicFloor$Text", name := "isDigit", desc := "(C)Z" } : Jvm.MethodName)) ∈ mm_gw := mm_gwI 317 (by decide +kernel) (by decide +kernel)
theorem mw_273 : (Jvm.Cond.code ({ cls := "MosaicFloor$Text", name := "isDigit", desc := "(C)Z" } : Jvm.MethodName) prog_7_method_5_code (1 : Nat) (Option.some Jvm.ClassFile.FieldType.boolean)) ∈ mm_gw := mm_gwI 318 (by decide +kernel) (by decide +kernel)
theorem mw_274 : (Jvm.Cond.methodLink "MosaicFloor" (65 : Nat) ({ cls := "MosaicFloor$Plan", name := "takePattern", desc := "(LMosaicFloor$Text;)I" } : Jvm.MethodName)) ∈ mm_gw := mm_gwI 319 (by decide +kernel) (by decide +kernel)
theorem mw_275 : (Jvm.Cond.instanceMethod ({ cls := "MosaicFloor$Plan", name := "takePattern", desc := "(LMosaicFloor$Text;)I" } : Jvm.MethodName)) ∈ mm_gw := mm_gwI 320 (by decide +kernel) (by decide +kernel)
theorem mw_277 : (Jvm.Cond.code ({ cls := "MosaicFloor$Plan", name := "takePattern", desc := "(LMosaicFloor$Text;)I" } : Jvm.MethodName) prog_3_method_4_code (2 : Nat) (Option.some Jvm.ClassFile.FieldType.int)) ∈ mm_gw := mm_gwI 322 (by decide +kernel) (by decide +kernel)
theorem mw_278 : (Jvm.Cond.methodLink "MosaicFloor$Plan" (47 : Nat) ({ cls := "MosaicFloor$Text", name := "readShades", desc := "([I)I" } : Jvm.MethodName)) ∈ mm_gw := mm_gwI 323 (by decide +kernel) (by decide +kernel)
theorem mw_279 : (Jvm.Cond.instanceMethod ({ cls := "MosaicFloor$Text", name := "readShades", desc := "([I)I" } : Jvm.MethodName)) ∈ mm_gw := mm_gwI 324 (by decide +kernel) (by decide +kernel)
theorem mw_281 : (Jvm.Cond.code ({ cls := "MosaicFloor$Text", name := "readShades", desc := "([I)I" } : Jvm.MethodName) prog_7_method_4_code (5 : Nat) (Option.some Jvm.ClassFile.FieldType.int)) ∈ mm_gw := mm_gwI 326 (by decide +kernel) (by decide +kernel)
theorem mw_282 : (Jvm.Cond.methodLink "MosaicFloor$Text" (23 : Nat) ({ cls := "java/lang/Math", name := "min", desc := "(II)I" } : Jvm.MethodName)) ∈ mm_gw := mm_gwI 327 (by decide +kernel) (by decide +kernel)
theorem mw_283 : (Jvm.Cond.static ({ cls := "java/lang/Math", name := "min", desc := "(II)I" } : Jvm.MethodName)) ∈ mm_gw := mm_gwI 328 (by decide +kernel) (by decide +kernel)
theorem mw_293 : (Jvm.Cond.methodLink "MosaicFloor" (73 : Nat) ({ cls := "MosaicFloor$Plan", name := "hasCell", desc := "(II)Z" } : Jvm.MethodName)) ∈ mm_gw := mm_gwI 338 (by decide +kernel) (by decide +kernel)
theorem mw_294 : (Jvm.Cond.instanceMethod ({ cls := "MosaicFloor$Plan", name := "hasCell", desc := "(II)Z" } : Jvm.MethodName)) ∈ mm_gw := mm_gwI 339 (by decide +kernel) (by decide +kernel)
theorem mw_296 : (Jvm.Cond.code ({ cls := "MosaicFloor$Plan", name := "hasCell", desc := "(II)Z" } : Jvm.MethodName) prog_3_method_5_code (3 : Nat) (Option.some Jvm.ClassFile.FieldType.boolean)) ∈ mm_gw := mm_gwI 341 (by decide +kernel) (by decide +kernel)
theorem mw_297 : (Jvm.Cond.methodLink "MosaicFloor" (77 : Nat) ({ cls := "MosaicFloor", name := "isShade", desc := "(I)Z" } : Jvm.MethodName)) ∈ mm_gw := mm_gwI 342 (by decide +kernel) (by decide +kernel)
theorem mw_298 : (Jvm.Cond.static ({ cls := "MosaicFloor", name := "isShade", desc := "(I)Z" } : Jvm.MethodName)) ∈ mm_gw := mm_gwI 343 (by decide +kernel) (by decide +kernel)
theorem mw_299 : (Jvm.Cond.code ({ cls := "MosaicFloor", name := "isShade", desc := "(I)Z" } : Jvm.MethodName) prog_1_method_27_code (1 : Nat) (Option.some Jvm.ClassFile.FieldType.boolean)) ∈ mm_gw := mm_gwI 344 (by decide +kernel) (by decide +kernel)
theorem mw_300 : (Jvm.Cond.methodLink "MosaicFloor" (81 : Nat) ({ cls := "MosaicFloor$Plan", name := "isBorder", desc := "(II)Z" } : Jvm.MethodName)) ∈ mm_gw := mm_gwI 345 (by decide +kernel) (by decide +kernel)
theorem mw_301 : (Jvm.Cond.instanceMethod ({ cls := "MosaicFloor$Plan", name := "isBorder", desc := "(II)Z" } : Jvm.MethodName)) ∈ mm_gw := mm_gwI 346 (by decide +kernel) (by decide +kernel)
theorem mw_303 : (Jvm.Cond.code ({ cls := "MosaicFloor$Plan", name := "isBorder", desc := "(II)Z" } : Jvm.MethodName) prog_3_method_6_code (3 : Nat) (Option.some Jvm.ClassFile.FieldType.boolean)) ∈ mm_gw := mm_gwI 348 (by decide +kernel) (by decide +kernel)
theorem mw_304 : (Jvm.Cond.methodLink "MosaicFloor" (84 : Nat) ({ cls := "MosaicFloor$State", name := "isLaid", desc := "(II)Z" } : Jvm.MethodName)) ∈ mm_gw := mm_gwI 349 (by decide +kernel) (by decide +kernel)
theorem mw_305 : (Jvm.Cond.instanceMethod ({ cls := "MosaicFloor$State", name := "isLaid", desc := "(II)Z" } : Jvm.MethodName)) ∈ mm_gw := mm_gwI 350 (by decide +kernel) (by decide +kernel)
theorem mw_307 : (Jvm.Cond.code ({ cls := "MosaicFloor$State", name := "isLaid", desc := "(II)Z" } : Jvm.MethodName) prog_4_method_5_code (3 : Nat) (Option.some Jvm.ClassFile.FieldType.boolean)) ∈ mm_gw := mm_gwI 352 (by decide +kernel) (by decide +kernel)
theorem mw_308 : (Jvm.Cond.methodLink "MosaicFloor$State" (56 : Nat) ({ cls := "MosaicFloor$State", name := "laidOrNone", desc := "(II)I" } : Jvm.MethodName)) ∈ mm_gw := mm_gwI 353 (by decide +kernel) (by decide +kernel)
theorem mw_309 : (Jvm.Cond.instanceMethod ({ cls := "MosaicFloor$State", name := "laidOrNone", desc := "(II)I" } : Jvm.MethodName)) ∈ mm_gw := mm_gwI 354 (by decide +kernel) (by decide +kernel)
theorem mw_311 : (Jvm.Cond.code ({ cls := "MosaicFloor$State", name := "laidOrNone", desc := "(II)I" } : Jvm.MethodName) prog_4_method_3_code (3 : Nat) (Option.some Jvm.ClassFile.FieldType.int)) ∈ mm_gw := mm_gwI 356 (by decide +kernel) (by decide +kernel)
theorem mw_312 : (Jvm.Cond.methodLink "MosaicFloor$State" (52 : Nat) ({ cls := "MosaicFloor$Plan", name := "hasCell", desc := "(II)Z" } : Jvm.MethodName)) ∈ mm_gw := mm_gwI 357 (by decide +kernel) (by decide +kernel)
theorem mw_313 : (Jvm.Cond.methodLink "MosaicFloor" (87 : Nat) ({ cls := "MosaicFloor$Plan", name := "wantedAt", desc := "(II)I" } : Jvm.MethodName)) ∈ mm_gw := mm_gwI 358 (by decide +kernel) (by decide +kernel)
theorem mw_314 : (Jvm.Cond.instanceMethod ({ cls := "MosaicFloor$Plan", name := "wantedAt", desc := "(II)I" } : Jvm.MethodName)) ∈ mm_gw := mm_gwI 359 (by decide +kernel) (by decide +kernel)
theorem mw_316 : (Jvm.Cond.code ({ cls := "MosaicFloor$Plan", name := "wantedAt", desc := "(II)I" } : Jvm.MethodName) prog_3_method_12_code (3 : Nat) (Option.some Jvm.ClassFile.FieldType.int)) ∈ mm_gw := mm_gwI 361 (by decide +kernel) (by decide +kernel)
theorem mw_317 : (Jvm.Cond.methodLink "MosaicFloor$Plan" (69 : Nat) ({ cls := "MosaicFloor$Plan", name := "hasCell", desc := "(II)Z" } : Jvm.MethodName)) ∈ mm_gw := mm_gwI 362 (by decide +kernel) (by decide +kernel)
theorem mw_318 : (Jvm.Cond.methodLink "MosaicFloor$Plan" (73 : Nat) ({ cls := "MosaicFloor$Plan", name := "isBorder", desc := "(II)Z" } : Jvm.MethodName)) ∈ mm_gw := mm_gwI 363 (by decide +kernel) (by decide +kernel)
theorem mw_319 : (Jvm.Cond.methodLink "MosaicFloor$Plan" (76 : Nat) ({ cls := "MosaicFloor$Plan", name := "borderNumberAt", desc := "(II)I" } : Jvm.MethodName)) ∈ mm_gw := mm_gwI 364 (by decide +kernel) (by decide +kernel)
theorem mw_320 : (Jvm.Cond.instanceMethod ({ cls := "MosaicFloor$Plan", name := "borderNumberAt", desc := "(II)I" } : Jvm.MethodName)) ∈ mm_gw := mm_gwI 365 (by decide +kernel) (by decide +kernel)
theorem mw_322 : (Jvm.Cond.code ({ cls := "MosaicFloor$Plan", name := "borderNumberAt", desc := "(II)I" } : Jvm.MethodName) prog_3_method_9_code (3 : Nat) (Option.some Jvm.ClassFile.FieldType.int)) ∈ mm_gw := mm_gwI 367 (by decide +kernel) (by decide +kernel)
theorem mw_323 : (Jvm.Cond.methodLink "MosaicFloor$Plan" (53 : Nat) ({ cls := "MosaicFloor$Plan", name := "halfOfBorder", desc := "()I" } : Jvm.MethodName)) ∈ mm_gw := mm_gwI 368 (by decide +kernel) (by decide +kernel)
theorem mw_325 : (Jvm.Cond.instanceMethod ({ cls := "MosaicFloor$Plan", name := "halfOfBorder", desc := "()I" } : Jvm.MethodName)) ∈ mm_gw := mm_gwI 370 (by decide +kernel) (by decide +kernel)
theorem mw_326 : (Jvm.Cond.code ({ cls := "MosaicFloor$Plan", name := "halfOfBorder", desc := "()I" } : Jvm.MethodName) prog_3_method_8_code (1 : Nat) (Option.some Jvm.ClassFile.FieldType.int)) ∈ mm_gw := mm_gwI 371 (by decide +kernel) (by decide +kernel)
theorem mw_327 : (Jvm.Cond.methodLink "MosaicFloor$Plan" (79 : Nat) ({ cls := "MosaicFloor$Plan", name := "wantedInBorder", desc := "(I)I" } : Jvm.MethodName)) ∈ mm_gw := mm_gwI 372 (by decide +kernel) (by decide +kernel)
theorem mw_329 : (Jvm.Cond.instanceMethod ({ cls := "MosaicFloor$Plan", name := "wantedInBorder", desc := "(I)I" } : Jvm.MethodName)) ∈ mm_gw := mm_gwI 374 (by decide +kernel) (by decide +kernel)
theorem mw_330 : (Jvm.Cond.code ({ cls := "MosaicFloor$Plan", name := "wantedInBorder", desc := "(I)I" } : Jvm.MethodName) prog_3_method_14_code (6 : Nat) (Option.some Jvm.ClassFile.FieldType.int)) ∈ mm_gw := mm_gwI 375 (by decide +kernel) (by decide +kernel)
theorem mw_331 : (Jvm.Cond.methodLink "MosaicFloor$Plan" (57 : Nat) ({ cls := "java/lang/Math", name := "min", desc := "(II)I" } : Jvm.MethodName)) ∈ mm_gw := mm_gwI 376 (by decide +kernel) (by decide +kernel)
theorem mw_332 : (Jvm.Cond.methodLink "MosaicFloor$Plan" (83 : Nat) ({ cls := "MosaicFloor$Plan", name := "patternShade", desc := "(I)I" } : Jvm.MethodName)) ∈ mm_gw := mm_gwI 377 (by decide +kernel) (by decide +kernel)
theorem mw_333 : (Jvm.Cond.instanceMethod ({ cls := "MosaicFloor$Plan", name := "patternShade", desc := "(I)I" } : Jvm.MethodName)) ∈ mm_gw := mm_gwI 378 (by decide +kernel) (by decide +kernel)
theorem mw_335 : (Jvm.Cond.code ({ cls := "MosaicFloor$Plan", name := "patternShade", desc := "(I)I" } : Jvm.MethodName) prog_3_method_16_code (3 : Nat) (Option.some Jvm.ClassFile.FieldType.int)) ∈ mm_gw := mm_gwI 380 (by decide +kernel) (by decide +kernel)
theorem mw_336 : (Jvm.Cond.methodLink "MosaicFloor$Plan" (86 : Nat) ({ cls := "MosaicFloor$Plan", name := "cellsOfWholePatterns", desc := "(I)I" } : Jvm.MethodName)) ∈ mm_gw := mm_gwI 381 (by decide +kernel) (by decide +kernel)
theorem mw_338 : (Jvm.Cond.instanceMethod ({ cls := "MosaicFloor$Plan", name := "cellsOfWholePatterns", desc := "(I)I" } : Jvm.MethodName)) ∈ mm_gw := mm_gwI 383 (by decide +kernel) (by decide +kernel)
theorem mw_339 : (Jvm.Cond.code ({ cls := "MosaicFloor$Plan", name := "cellsOfWholePatterns", desc := "(I)I" } : Jvm.MethodName) prog_3_method_15_code (2 : Nat) (Option.some Jvm.ClassFile.FieldType.int)) ∈ mm_gw := mm_gwI 384 (by decide +kernel) (by decide +kernel)
theorem mw_340 : (Jvm.Cond.methodLink "MosaicFloor" (91 : Nat) ({ cls := "MosaicFloor$Plan", name := "wantInField", desc := "(III)V" } : Jvm.MethodName)) ∈ mm_gw := mm_gwI 385 (by decide +kernel) (by decide +kernel)
theorem mw_341 : (Jvm.Cond.instanceMethod ({ cls := "MosaicFloor$Plan", name := "wantInField", desc := "(III)V" } : Jvm.MethodName)) ∈ mm_gw := mm_gwI 386 (by decide +kernel) (by decide +kernel)
theorem mw_343 : (Jvm.Cond.code ({ cls := "MosaicFloor$Plan", name := "wantInField", desc := "(III)V" } : Jvm.MethodName) prog_3_method_13_code (4 : Nat) (Option.none : Option Jvm.ClassFile.FieldType)) ∈ mm_gw := mm_gwI 388 (by decide +kernel) (by decide +kernel)
theorem mw_348 : (Jvm.Cond.methodLink "MosaicFloor" (95 : Nat) ({ cls := "MosaicFloor$State", name := "laidOrNone", desc := "(II)I" } : Jvm.MethodName)) ∈ mm_gw := mm_gwI 393 (by decide +kernel) (by decide +kernel)
theorem mw_349 : (Jvm.Cond.methodLink "MosaicFloor" (98 : Nat) ({ cls := "MosaicFloor$State", name := "differenceAt", desc := "(II)I" } : Jvm.MethodName)) ∈ mm_gw := mm_gwI 394 (by decide +kernel) (by decide +kernel)
theorem mw_350 : (Jvm.Cond.instanceMethod ({ cls := "MosaicFloor$State", name := "differenceAt", desc := "(II)I" } : Jvm.MethodName)) ∈ mm_gw := mm_gwI 395 (by decide +kernel) (by decide +kernel)
theorem mw_352 : (Jvm.Cond.code ({ cls := "MosaicFloor$State", name := "differenceAt", desc := "(II)I" } : Jvm.MethodName) prog_4_method_6_code (3 : Nat) (Option.some Jvm.ClassFile.FieldType.int)) ∈ mm_gw := mm_gwI 397 (by decide +kernel) (by decide +kernel)
theorem mw_353 : (Jvm.Cond.methodLink "MosaicFloor$State" (60 : Nat) ({ cls := "MosaicFloor$State", name := "isLaid", desc := "(II)Z" } : Jvm.MethodName)) ∈ mm_gw := mm_gwI 398 (by decide +kernel) (by decide +kernel)
theorem mw_354 : (Jvm.Cond.methodLink "MosaicFloor$State" (63 : Nat) ({ cls := "MosaicFloor$Plan", name := "wantedAt", desc := "(II)I" } : Jvm.MethodName)) ∈ mm_gw := mm_gwI 399 (by decide +kernel) (by decide +kernel)
theorem mw_355 : (Jvm.Cond.methodLink "MosaicFloor$State" (66 : Nat) ({ cls := "java/lang/Math", name := "abs", desc := "(I)I" } : Jvm.MethodName)) ∈ mm_gw := mm_gwI 400 (by decide +kernel) (by decide +kernel)
theorem mw_356 : (Jvm.Cond.static ({ cls := "java/lang/Math", name := "abs", desc := "(I)I" } : Jvm.MethodName)) ∈ mm_gw := mm_gwI 401 (by decide +kernel) (by decide +kernel)
theorem mw_358 : (Jvm.Cond.methodLink "MosaicFloor" (101 : Nat) ({ cls := "MosaicFloor$Plan", name := "borderNumberAt", desc := "(II)I" } : Jvm.MethodName)) ∈ mm_gw := mm_gwI 403 (by decide +kernel) (by decide +kernel)
theorem mw_363 : (Jvm.Cond.methodLink "MosaicFloor" (104 : Nat) ({ cls := "MosaicFloor", name := "countOfPlan", desc := "(I)I" } : Jvm.MethodName)) ∈ mm_gw := mm_gwI 408 (by decide +kernel) (by decide +kernel)
theorem mw_365 : (Jvm.Cond.instanceMethod ({ cls := "MosaicFloor", name := "countOfPlan", desc := "(I)I" } : Jvm.MethodName)) ∈ mm_gw := mm_gwI 410 (by decide +kernel) (by decide +kernel)
theorem mw_366 : (Jvm.Cond.code ({ cls := "MosaicFloor", name := "countOfPlan", desc := "(I)I" } : Jvm.MethodName) prog_1_method_30_code (2 : Nat) (Option.some Jvm.ClassFile.FieldType.int)) ∈ mm_gw := mm_gwI 411 (by decide +kernel) (by decide +kernel)
theorem mw_367 : (Jvm.Cond.methodLink "MosaicFloor" (226 : Nat) ({ cls := "MosaicFloor$Plan", name := "borderCells", desc := "()I" } : Jvm.MethodName)) ∈ mm_gw := mm_gwI 412 (by decide +kernel) (by decide +kernel)
theorem mw_368 : (Jvm.Cond.instanceMethod ({ cls := "MosaicFloor$Plan", name := "borderCells", desc := "()I" } : Jvm.MethodName)) ∈ mm_gw := mm_gwI 413 (by decide +kernel) (by decide +kernel)
theorem mw_370 : (Jvm.Cond.code ({ cls := "MosaicFloor$Plan", name := "borderCells", desc := "()I" } : Jvm.MethodName) prog_3_method_7_code (1 : Nat) (Option.some Jvm.ClassFile.FieldType.int)) ∈ mm_gw := mm_gwI 415 (by decide +kernel) (by decide +kernel)
theorem mw_371 : (Jvm.Cond.methodLink "MosaicFloor" (229 : Nat) ({ cls := "MosaicFloor$Plan", name := "borderMeets", desc := "()Z" } : Jvm.MethodName)) ∈ mm_gw := mm_gwI 416 (by decide +kernel) (by decide +kernel)
theorem mw_372 : (Jvm.Cond.instanceMethod ({ cls := "MosaicFloor$Plan", name := "borderMeets", desc := "()Z" } : Jvm.MethodName)) ∈ mm_gw := mm_gwI 417 (by decide +kernel) (by decide +kernel)
theorem mw_374 : (Jvm.Cond.code ({ cls := "MosaicFloor$Plan", name := "borderMeets", desc := "()Z" } : Jvm.MethodName) prog_3_method_17_code (4 : Nat) (Option.some Jvm.ClassFile.FieldType.boolean)) ∈ mm_gw := mm_gwI 419 (by decide +kernel) (by decide +kernel)
theorem mw_375 : (Jvm.Cond.methodLink "MosaicFloor$Plan" (89 : Nat) ({ cls := "MosaicFloor$Plan", name := "patternHasOneShade", desc := "()Z" } : Jvm.MethodName)) ∈ mm_gw := mm_gwI 420 (by decide +kernel) (by decide +kernel)
theorem mw_377 : (Jvm.Cond.instanceMethod ({ cls := "MosaicFloor$Plan", name := "patternHasOneShade", desc := "()Z" } : Jvm.MethodName)) ∈ mm_gw := mm_gwI 422 (by decide +kernel) (by decide +kernel)
theorem mw_378 : (Jvm.Cond.code ({ cls := "MosaicFloor$Plan", name := "patternHasOneShade", desc := "()Z" } : Jvm.MethodName) prog_3_method_18_code (2 : Nat) (Option.some Jvm.ClassFile.FieldType.boolean)) ∈ mm_gw := mm_gwI 423 (by decide +kernel) (by decide +kernel)
theorem mw_379 : (Jvm.Cond.methodLink "MosaicFloor$Plan" (66 : Nat) ({ cls := "MosaicFloor$Plan", name := "borderCells", desc := "()I" } : Jvm.MethodName)) ∈ mm_gw := mm_gwI 424 (by decide +kernel) (by decide +kernel)
theorem mw_380 : (Jvm.Cond.methodLink "MosaicFloor" (107 : Nat) ({ cls := "MosaicFloor", name := "countOfWork", desc := "(I)I" } : Jvm.MethodName)) ∈ mm_gw := mm_gwI 425 (by decide +kernel) (by decide +kernel)
theorem mw_382 : (Jvm.Cond.instanceMethod ({ cls := "MosaicFloor", name := "countOfWork", desc := "(I)I" } : Jvm.MethodName)) ∈ mm_gw := mm_gwI 427 (by decide +kernel) (by decide +kernel)
theorem mw_383 : (Jvm.Cond.code ({ cls := "MosaicFloor", name := "countOfWork", desc := "(I)I" } : Jvm.MethodName) prog_1_method_31_code (2 : Nat) (Option.some Jvm.ClassFile.FieldType.int)) ∈ mm_gw := mm_gwI 428 (by decide +kernel) (by decide +kernel)
theorem mw_384 : (Jvm.Cond.methodLink "MosaicFloor" (210 : Nat) ({ cls := "MosaicFloor$State", name := "sumOfDifferences", desc := "()I" } : Jvm.MethodName)) ∈ mm_gw := mm_gwI 429 (by decide +kernel) (by decide +kernel)
theorem mw_385 : (Jvm.Cond.instanceMethod ({ cls := "MosaicFloor$State", name := "sumOfDifferences", desc := "()I" } : Jvm.MethodName)) ∈ mm_gw := mm_gwI 430 (by decide +kernel) (by decide +kernel)
theorem mw_387 : (Jvm.Cond.code ({ cls := "MosaicFloor$State", name := "sumOfDifferences", desc := "()I" } : Jvm.MethodName) prog_4_method_8_code (4 : Nat) (Option.some Jvm.ClassFile.FieldType.int)) ∈ mm_gw := mm_gwI 432 (by decide +kernel) (by decide +kernel)
theorem mw_388 : (Jvm.Cond.methodLink "MosaicFloor$State" (78 : Nat) ({ cls := "MosaicFloor$State", name := "differenceAt", desc := "(II)I" } : Jvm.MethodName)) ∈ mm_gw := mm_gwI 433 (by decide +kernel) (by decide +kernel)
theorem mw_389 : (Jvm.Cond.methodLink "MosaicFloor" (233 : Nat) ({ cls := "MosaicFloor$State", name := "greatestDifference", desc := "()I" } : Jvm.MethodName)) ∈ mm_gw := mm_gwI 434 (by decide +kernel) (by decide +kernel)
theorem mw_390 : (Jvm.Cond.instanceMethod ({ cls := "MosaicFloor$State", name := "greatestDifference", desc := "()I" } : Jvm.MethodName)) ∈ mm_gw := mm_gwI 435 (by decide +kernel) (by decide +kernel)
theorem mw_392 : (Jvm.Cond.code ({ cls := "MosaicFloor$State", name := "greatestDifference", desc := "()I" } : Jvm.MethodName) prog_4_method_9_code (4 : Nat) (Option.some Jvm.ClassFile.FieldType.int)) ∈ mm_gw := mm_gwI 437 (by decide +kernel) (by decide +kernel)
theorem mw_393 : (Jvm.Cond.methodLink "MosaicFloor$State" (81 : Nat) ({ cls := "java/lang/Math", name := "max", desc := "(II)I" } : Jvm.MethodName)) ∈ mm_gw := mm_gwI 438 (by decide +kernel) (by decide +kernel)
theorem mw_394 : (Jvm.Cond.static ({ cls := "java/lang/Math", name := "max", desc := "(II)I" } : Jvm.MethodName)) ∈ mm_gw := mm_gwI 439 (by decide +kernel) (by decide +kernel)
theorem mw_396 : (Jvm.Cond.methodLink "MosaicFloor" (236 : Nat) ({ cls := "MosaicFloor$Stock", name := "tesseraeAtHand", desc := "()I" } : Jvm.MethodName)) ∈ mm_gw := mm_gwI 441 (by decide +kernel) (by decide +kernel)
theorem mw_397 : (Jvm.Cond.methodLink "MosaicFloor" (119 : Nat) ({ cls := "MosaicFloor$History", name := "states", desc := "()I" } : Jvm.MethodName)) ∈ mm_gw := mm_gwI 442 (by decide +kernel) (by decide +kernel)
theorem mw_398 : (Jvm.Cond.instanceMethod ({ cls := "MosaicFloor$History", name := "states", desc := "()I" } : Jvm.MethodName)) ∈ mm_gw := mm_gwI 443 (by decide +kernel) (by decide +kernel)
theorem mw_400 : (Jvm.Cond.code ({ cls := "MosaicFloor$History", name := "states", desc := "()I" } : Jvm.MethodName) prog_2_method_2_code (1 : Nat) (Option.some Jvm.ClassFile.FieldType.int)) ∈ mm_gw := mm_gwI 445 (by decide +kernel) (by decide +kernel)
theorem mw_401 : (Jvm.Cond.methodLink "MosaicFloor" (110 : Nat) ({ cls := "MosaicFloor", name := "account", desc := "(I)I" } : Jvm.MethodName)) ∈ mm_gw := mm_gwI 446 (by decide +kernel) (by decide +kernel)
theorem mw_403 : (Jvm.Cond.instanceMethod ({ cls := "MosaicFloor", name := "account", desc := "(I)I" } : Jvm.MethodName)) ∈ mm_gw := mm_gwI 448 (by decide +kernel) (by decide +kernel)
theorem mw_404 : (Jvm.Cond.code ({ cls := "MosaicFloor", name := "account", desc := "(I)I" } : Jvm.MethodName) prog_1_method_32_code (2 : Nat) (Option.some Jvm.ClassFile.FieldType.int)) ∈ mm_gw := mm_gwI 449 (by decide +kernel) (by decide +kernel)
theorem mw_405 : (Jvm.Cond.methodLink "MosaicFloor" (245 : Nat) ({ cls := "MosaicFloor$Stock", name := "lengthOfStrips", desc := "()I" } : Jvm.MethodName)) ∈ mm_gw := mm_gwI 450 (by decide +kernel) (by decide +kernel)
theorem mw_406 : (Jvm.Cond.instanceMethod ({ cls := "MosaicFloor$Stock", name := "lengthOfStrips", desc := "()I" } : Jvm.MethodName)) ∈ mm_gw := mm_gwI 451 (by decide +kernel) (by decide +kernel)
theorem mw_408 : (Jvm.Cond.code ({ cls := "MosaicFloor$Stock", name := "lengthOfStrips", desc := "()I" } : Jvm.MethodName) prog_5_method_5_code (6 : Nat) (Option.some Jvm.ClassFile.FieldType.int)) ∈ mm_gw := mm_gwI 453 (by decide +kernel) (by decide +kernel)
theorem mw_409 : (Jvm.Cond.methodLink "MosaicFloor" (248 : Nat) ({ cls := "MosaicFloor$Stock", name := "leftOfStrips", desc := "()I" } : Jvm.MethodName)) ∈ mm_gw := mm_gwI 454 (by decide +kernel) (by decide +kernel)
theorem mw_410 : (Jvm.Cond.instanceMethod ({ cls := "MosaicFloor$Stock", name := "leftOfStrips", desc := "()I" } : Jvm.MethodName)) ∈ mm_gw := mm_gwI 455 (by decide +kernel) (by decide +kernel)
theorem mw_412 : (Jvm.Cond.code ({ cls := "MosaicFloor$Stock", name := "leftOfStrips", desc := "()I" } : Jvm.MethodName) prog_5_method_6_code (6 : Nat) (Option.some Jvm.ClassFile.FieldType.int)) ∈ mm_gw := mm_gwI 457 (by decide +kernel) (by decide +kernel)
theorem mw_413 : (Jvm.Cond.methodLink "MosaicFloor$Stock" (61 : Nat) ({ cls := "MosaicFloor$Strip", name := "left", desc := "()I" } : Jvm.MethodName)) ∈ mm_gw := mm_gwI 458 (by decide +kernel) (by decide +kernel)
theorem mw_414 : (Jvm.Cond.instanceMethod ({ cls := "MosaicFloor$Strip", name := "left", desc := "()I" } : Jvm.MethodName)) ∈ mm_gw := mm_gwI 459 (by decide +kernel) (by decide +kernel)
theorem mw_416 : (Jvm.Cond.code ({ cls := "MosaicFloor$Strip", name := "left", desc := "()I" } : Jvm.MethodName) prog_6_method_4_code (1 : Nat) (Option.some Jvm.ClassFile.FieldType.int)) ∈ mm_gw := mm_gwI 461 (by decide +kernel) (by decide +kernel)
theorem mw_421 : (Jvm.Cond.methodLink "MosaicFloor" (116 : Nat) ({ cls := "MosaicFloor$Plan", name := "patternShade", desc := "(I)I" } : Jvm.MethodName)) ∈ mm_gw := mm_gwI 466 (by decide +kernel) (by decide +kernel)
theorem mw_426 : (Jvm.Cond.methodLink "MosaicFloor" (122 : Nat) ({ cls := "MosaicFloor$History", name := "restore", desc := "(LMosaicFloor$State;)V" } : Jvm.MethodName)) ∈ mm_gw := mm_gwI 471 (by decide +kernel) (by decide +kernel)
theorem mw_427 : (Jvm.Cond.instanceMethod ({ cls := "MosaicFloor$History", name := "restore", desc := "(LMosaicFloor$State;)V" } : Jvm.MethodName)) ∈ mm_gw := mm_gwI 472 (by decide +kernel) (by decide +kernel)
theorem mw_429 : (Jvm.Cond.code ({ cls := "MosaicFloor$History", name := "restore", desc := "(LMosaicFloor$State;)V" } : Jvm.MethodName) prog_2_method_5_code (2 : Nat) (Option.none : Option Jvm.ClassFile.FieldType)) ∈ mm_gw := mm_gwI 474 (by decide +kernel) (by decide +kernel)
theorem mw_434 : (Jvm.Cond.methodLink "MosaicFloor" (134 : Nat) ({ cls := "MosaicFloor$Stock", name := "addStrip", desc := "(II)I" } : Jvm.MethodName)) ∈ mm_gw := mm_gwI 479 (by decide +kernel) (by decide +kernel)
theorem mw_435 : (Jvm.Cond.instanceMethod ({ cls := "MosaicFloor$Stock", name := "addStrip", desc := "(II)I" } : Jvm.MethodName)) ∈ mm_gw := mm_gwI 480 (by decide +kernel) (by decide +kernel)
theorem mw_437 : (Jvm.Cond.code ({ cls := "MosaicFloor$Stock", name := "addStrip", desc := "(II)I" } : Jvm.MethodName) prog_5_method_3_code (4 : Nat) (Option.some Jvm.ClassFile.FieldType.int)) ∈ mm_gw := mm_gwI 482 (by decide +kernel) (by decide +kernel)
theorem mw_438 : (Jvm.Cond.methodLink "MosaicFloor$Stock" (54 : Nat) ({ cls := "MosaicFloor$Strip", name := "begin", desc := "(II)V" } : Jvm.MethodName)) ∈ mm_gw := mm_gwI 483 (by decide +kernel) (by decide +kernel)
theorem mw_439 : (Jvm.Cond.instanceMethod ({ cls := "MosaicFloor$Strip", name := "begin", desc := "(II)V" } : Jvm.MethodName)) ∈ mm_gw := mm_gwI 484 (by decide +kernel) (by decide +kernel)
theorem mw_441 : (Jvm.Cond.code ({ cls := "MosaicFloor$Strip", name := "begin", desc := "(II)V" } : Jvm.MethodName) prog_6_method_2_code (3 : Nat) (Option.none : Option Jvm.ClassFile.FieldType)) ∈ mm_gw := mm_gwI 486 (by decide +kernel) (by decide +kernel)
theorem mw_446 : (Jvm.Cond.methodLink "MosaicFloor" (137 : Nat) ({ cls := "MosaicFloor$Stock", name := "stripOrNull", desc := "(I)LMosaicFloor$Strip;" } : Jvm.MethodName)) ∈ mm_gw := mm_gwI 491 (by decide +kernel) (by decide +kernel)
theorem mw_447 : (Jvm.Cond.instanceMethod ({ cls := "MosaicFloor$Stock", name := "stripOrNull", desc := "(I)LMosaicFloor$Strip;" } : Jvm.MethodName)) ∈ mm_gw := mm_gwI 492 (by decide +kernel) (by decide +kernel)
theorem mw_449 : (Jvm.Cond.code ({ cls := "MosaicFloor$Stock", name := "stripOrNull", desc := "(I)LMosaicFloor$Strip;" } : Jvm.MethodName) prog_5_method_4_code (2 : Nat) (Option.some (Jvm.ClassFile.FieldType.object "MosaicFloor$Strip"))) ∈ mm_gw := mm_gwI 494 (by decide +kernel) (by decide +kernel)
theorem mw_450 : (Jvm.Cond.methodLink "MosaicFloor" (149 : Nat) ({ cls := "MosaicFloor$Strip", name := "hasFlawIn", desc := "(II)Z" } : Jvm.MethodName)) ∈ mm_gw := mm_gwI 495 (by decide +kernel) (by decide +kernel)
theorem mw_451 : (Jvm.Cond.instanceMethod ({ cls := "MosaicFloor$Strip", name := "hasFlawIn", desc := "(II)Z" } : Jvm.MethodName)) ∈ mm_gw := mm_gwI 496 (by decide +kernel) (by decide +kernel)
theorem mw_453 : (Jvm.Cond.code ({ cls := "MosaicFloor$Strip", name := "hasFlawIn", desc := "(II)Z" } : Jvm.MethodName) prog_6_method_6_code (4 : Nat) (Option.some Jvm.ClassFile.FieldType.boolean)) ∈ mm_gw := mm_gwI 498 (by decide +kernel) (by decide +kernel)
theorem mw_454 : (Jvm.Cond.methodLink "MosaicFloor" (155 : Nat) ({ cls := "MosaicFloor$Strip", name := "addFlaw", desc := "(I)V" } : Jvm.MethodName)) ∈ mm_gw := mm_gwI 499 (by decide +kernel) (by decide +kernel)
theorem mw_455 : (Jvm.Cond.instanceMethod ({ cls := "MosaicFloor$Strip", name := "addFlaw", desc := "(I)V" } : Jvm.MethodName)) ∈ mm_gw := mm_gwI 500 (by decide +kernel) (by decide +kernel)
theorem mw_457 : (Jvm.Cond.code ({ cls := "MosaicFloor$Strip", name := "addFlaw", desc := "(I)V" } : Jvm.MethodName) prog_6_method_5_code (2 : Nat) (Option.none : Option Jvm.ClassFile.FieldType)) ∈ mm_gw := mm_gwI 502 (by decide +kernel) (by decide +kernel)
theorem mw_462 : (Jvm.Cond.methodLink "MosaicFloor" (159 : Nat) ({ cls := "MosaicFloor$Strip", name := "left", desc := "()I" } : Jvm.MethodName)) ∈ mm_gw := mm_gwI 507 (by decide +kernel) (by decide +kernel)
theorem mw_463 : (Jvm.Cond.methodLink "MosaicFloor" (165 : Nat) ({ cls := "MosaicFloor$Stock", name := "cutFrom", desc := "(LMosaicFloor$Strip;)Z" } : Jvm.MethodName)) ∈ mm_gw := mm_gwI 508 (by decide +kernel) (by decide +kernel)
theorem mw_464 : (Jvm.Cond.instanceMethod ({ cls := "MosaicFloor$Stock", name := "cutFrom", desc := "(LMosaicFloor$Strip;)Z" } : Jvm.MethodName)) ∈ mm_gw := mm_gwI 509 (by decide +kernel) (by decide +kernel)
theorem mw_466 : (Jvm.Cond.code ({ cls := "MosaicFloor$Stock", name := "cutFrom", desc := "(LMosaicFloor$Strip;)Z" } : Jvm.MethodName) prog_5_method_18_code (4 : Nat) (Option.some Jvm.ClassFile.FieldType.boolean)) ∈ mm_gw := mm_gwI 511 (by decide +kernel) (by decide +kernel)
theorem mw_467 : (Jvm.Cond.methodLink "MosaicFloor$Stock" (116 : Nat) ({ cls := "MosaicFloor$Strip", name := "cutOff", desc := "(II)Z" } : Jvm.MethodName)) ∈ mm_gw := mm_gwI 512 (by decide +kernel) (by decide +kernel)
theorem mw_468 : (Jvm.Cond.instanceMethod ({ cls := "MosaicFloor$Strip", name := "cutOff", desc := "(II)Z" } : Jvm.MethodName)) ∈ mm_gw := mm_gwI 513 (by decide +kernel) (by decide +kernel)
theorem mw_470 : (Jvm.Cond.code ({ cls := "MosaicFloor$Strip", name := "cutOff", desc := "(II)Z" } : Jvm.MethodName) prog_6_method_10_code (4 : Nat) (Option.some Jvm.ClassFile.FieldType.boolean)) ∈ mm_gw := mm_gwI 515 (by decide +kernel) (by decide +kernel)
theorem mw_471 : (Jvm.Cond.methodLink "MosaicFloor$Strip" (41 : Nat) ({ cls := "MosaicFloor$Strip", name := "hasFlawIn", desc := "(II)Z" } : Jvm.MethodName)) ∈ mm_gw := mm_gwI 516 (by decide +kernel) (by decide +kernel)
theorem mw_472 : (Jvm.Cond.methodLink "MosaicFloor$Strip" (45 : Nat) ({ cls := "java/lang/Math", name := "min", desc := "(II)I" } : Jvm.MethodName)) ∈ mm_gw := mm_gwI 517 (by decide +kernel) (by decide +kernel)
theorem mw_473 : (Jvm.Cond.methodLink "MosaicFloor$Stock" (119 : Nat) ({ cls := "MosaicFloor$Stock", name := "putAtHand", desc := "(I)V" } : Jvm.MethodName)) ∈ mm_gw := mm_gwI 518 (by decide +kernel) (by decide +kernel)
theorem mw_474 : (Jvm.Cond.instanceMethod ({ cls := "MosaicFloor$Stock", name := "putAtHand", desc := "(I)V" } : Jvm.MethodName)) ∈ mm_gw := mm_gwI 519 (by decide +kernel) (by decide +kernel)
theorem mw_476 : (Jvm.Cond.code ({ cls := "MosaicFloor$Stock", name := "putAtHand", desc := "(I)V" } : Jvm.MethodName) prog_5_method_9_code (2 : Nat) (Option.none : Option Jvm.ClassFile.FieldType)) ∈ mm_gw := mm_gwI 521 (by decide +kernel) (by decide +kernel)
theorem mw_478 : (Jvm.Cond.methodLink "MosaicFloor$Stock" (123 : Nat) ({ cls := "MosaicFloor$Stock", name := "addBroken", desc := "()V" } : Jvm.MethodName)) ∈ mm_gw := mm_gwI 523 (by decide +kernel) (by decide +kernel)
theorem mw_479 : (Jvm.Cond.instanceMethod ({ cls := "MosaicFloor$Stock", name := "addBroken", desc := "()V" } : Jvm.MethodName)) ∈ mm_gw := mm_gwI 524 (by decide +kernel) (by decide +kernel)
theorem mw_481 : (Jvm.Cond.code ({ cls := "MosaicFloor$Stock", name := "addBroken", desc := "()V" } : Jvm.MethodName) prog_5_method_11_code (1 : Nat) (Option.none : Option Jvm.ClassFile.FieldType)) ∈ mm_gw := mm_gwI 526 (by decide +kernel) (by decide +kernel)
theorem mw_486 : (Jvm.Cond.methodLink "MosaicFloor" (175 : Nat) ({ cls := "MosaicFloor$Strip", name := "tesseraeAhead", desc := "(II)I" } : Jvm.MethodName)) ∈ mm_gw := mm_gwI 531 (by decide +kernel) (by decide +kernel)
theorem mw_487 : (Jvm.Cond.instanceMethod ({ cls := "MosaicFloor$Strip", name := "tesseraeAhead", desc := "(II)I" } : Jvm.MethodName)) ∈ mm_gw := mm_gwI 532 (by decide +kernel) (by decide +kernel)
theorem mw_489 : (Jvm.Cond.code ({ cls := "MosaicFloor$Strip", name := "tesseraeAhead", desc := "(II)I" } : Jvm.MethodName) prog_6_method_7_code (5 : Nat) (Option.some Jvm.ClassFile.FieldType.int)) ∈ mm_gw := mm_gwI 534 (by decide +kernel) (by decide +kernel)
theorem mw_490 : (Jvm.Cond.methodLink "MosaicFloor" (178 : Nat) ({ cls := "MosaicFloor$Strip", name := "goodTesseraeAhead", desc := "(II)I" } : Jvm.MethodName)) ∈ mm_gw := mm_gwI 535 (by decide +kernel) (by decide +kernel)
theorem mw_491 : (Jvm.Cond.instanceMethod ({ cls := "MosaicFloor$Strip", name := "goodTesseraeAhead", desc := "(II)I" } : Jvm.MethodName)) ∈ mm_gw := mm_gwI 536 (by decide +kernel) (by decide +kernel)
theorem mw_493 : (Jvm.Cond.code ({ cls := "MosaicFloor$Strip", name := "goodTesseraeAhead", desc := "(II)I" } : Jvm.MethodName) prog_6_method_8_code (7 : Nat) (Option.some Jvm.ClassFile.FieldType.int)) ∈ mm_gw := mm_gwI 538 (by decide +kernel) (by decide +kernel)
theorem mw_494 : (Jvm.Cond.methodLink "MosaicFloor$Strip" (37 : Nat) ({ cls := "MosaicFloor$Strip", name := "tesseraeAhead", desc := "(II)I" } : Jvm.MethodName)) ∈ mm_gw := mm_gwI 539 (by decide +kernel) (by decide +kernel)
theorem mw_499 : (Jvm.Cond.methodLink "MosaicFloor" (184 : Nat) ({ cls := "MosaicFloor$State", name := "shadeForOrNone", desc := "(II)I" } : Jvm.MethodName)) ∈ mm_gw := mm_gwI 544 (by decide +kernel) (by decide +kernel)
theorem mw_500 : (Jvm.Cond.instanceMethod ({ cls := "MosaicFloor$State", name := "shadeForOrNone", desc := "(II)I" } : Jvm.MethodName)) ∈ mm_gw := mm_gwI 545 (by decide +kernel) (by decide +kernel)
theorem mw_502 : (Jvm.Cond.code ({ cls := "MosaicFloor$State", name := "shadeForOrNone", desc := "(II)I" } : Jvm.MethodName) prog_4_method_10_code (3 : Nat) (Option.some Jvm.ClassFile.FieldType.int)) ∈ mm_gw := mm_gwI 547 (by decide +kernel) (by decide +kernel)
theorem mw_503 : (Jvm.Cond.methodLink "MosaicFloor$State" (84 : Nat) ({ cls := "MosaicFloor$Stock", name := "nearestShadeOrNone", desc := "(I)I" } : Jvm.MethodName)) ∈ mm_gw := mm_gwI 548 (by decide +kernel) (by decide +kernel)
theorem mw_504 : (Jvm.Cond.instanceMethod ({ cls := "MosaicFloor$Stock", name := "nearestShadeOrNone", desc := "(I)I" } : Jvm.MethodName)) ∈ mm_gw := mm_gwI 549 (by decide +kernel) (by decide +kernel)
theorem mw_506 : (Jvm.Cond.code ({ cls := "MosaicFloor$Stock", name := "nearestShadeOrNone", desc := "(I)I" } : Jvm.MethodName) prog_5_method_14_code (7 : Nat) (Option.some Jvm.ClassFile.FieldType.int)) ∈ mm_gw := mm_gwI 551 (by decide +kernel) (by decide +kernel)
theorem mw_507 : (Jvm.Cond.methodLink "MosaicFloor$Stock" (89 : Nat) ({ cls := "MosaicFloor$Stock", name := "nearer", desc := "(III)I" } : Jvm.MethodName)) ∈ mm_gw := mm_gwI 552 (by decide +kernel) (by decide +kernel)
theorem mw_508 : (Jvm.Cond.static ({ cls := "MosaicFloor$Stock", name := "nearer", desc := "(III)I" } : Jvm.MethodName)) ∈ mm_gw := mm_gwI 553 (by decide +kernel) (by decide +kernel)
theorem mw_509 : (Jvm.Cond.code ({ cls := "MosaicFloor$Stock", name := "nearer", desc := "(III)I" } : Jvm.MethodName) prog_5_method_15_code (5 : Nat) (Option.some Jvm.ClassFile.FieldType.int)) ∈ mm_gw := mm_gwI 554 (by decide +kernel) (by decide +kernel)
theorem mw_510 : (Jvm.Cond.methodLink "MosaicFloor$Stock" (97 : Nat) ({ cls := "java/lang/Math", name := "abs", desc := "(I)I" } : Jvm.MethodName)) ∈ mm_gw := mm_gwI 555 (by decide +kernel) (by decide +kernel)
theorem mw_511 : (Jvm.Cond.methodLink "MosaicFloor$Stock" (102 : Nat) ({ cls := "java/lang/Math", name := "min", desc := "(II)I" } : Jvm.MethodName)) ∈ mm_gw := mm_gwI 556 (by decide +kernel) (by decide +kernel)
theorem mw_512 : (Jvm.Cond.methodLink "MosaicFloor$Stock" (93 : Nat) ({ cls := "MosaicFloor$Strip", name := "givesGood", desc := "(II)Z" } : Jvm.MethodName)) ∈ mm_gw := mm_gwI 557 (by decide +kernel) (by decide +kernel)
theorem mw_513 : (Jvm.Cond.instanceMethod ({ cls := "MosaicFloor$Strip", name := "givesGood", desc := "(II)Z" } : Jvm.MethodName)) ∈ mm_gw := mm_gwI 558 (by decide +kernel) (by decide +kernel)
theorem mw_515 : (Jvm.Cond.code ({ cls := "MosaicFloor$Strip", name := "givesGood", desc := "(II)Z" } : Jvm.MethodName) prog_6_method_9_code (6 : Nat) (Option.some Jvm.ClassFile.FieldType.boolean)) ∈ mm_gw := mm_gwI 560 (by decide +kernel) (by decide +kernel)
theorem mw_516 : (Jvm.Cond.methodLink "MosaicFloor" (187 : Nat) ({ cls := "MosaicFloor$State", name := "layCellIfPossible", desc := "(II)V" } : Jvm.MethodName)) ∈ mm_gw := mm_gwI 561 (by decide +kernel) (by decide +kernel)
theorem mw_517 : (Jvm.Cond.instanceMethod ({ cls := "MosaicFloor$State", name := "layCellIfPossible", desc := "(II)V" } : Jvm.MethodName)) ∈ mm_gw := mm_gwI 562 (by decide +kernel) (by decide +kernel)
theorem mw_519 : (Jvm.Cond.code ({ cls := "MosaicFloor$State", name := "layCellIfPossible", desc := "(II)V" } : Jvm.MethodName) prog_4_method_11_code (4 : Nat) (Option.none : Option Jvm.ClassFile.FieldType)) ∈ mm_gw := mm_gwI 564 (by decide +kernel) (by decide +kernel)
theorem mw_520 : (Jvm.Cond.methodLink "MosaicFloor$State" (87 : Nat) ({ cls := "MosaicFloor$Stock", name := "bringToHand", desc := "(I)V" } : Jvm.MethodName)) ∈ mm_gw := mm_gwI 565 (by decide +kernel) (by decide +kernel)
theorem mw_521 : (Jvm.Cond.instanceMethod ({ cls := "MosaicFloor$Stock", name := "bringToHand", desc := "(I)V" } : Jvm.MethodName)) ∈ mm_gw := mm_gwI 566 (by decide +kernel) (by decide +kernel)
theorem mw_523 : (Jvm.Cond.code ({ cls := "MosaicFloor$Stock", name := "bringToHand", desc := "(I)V" } : Jvm.MethodName) prog_5_method_16_code (5 : Nat) (Option.none : Option Jvm.ClassFile.FieldType)) ∈ mm_gw := mm_gwI 568 (by decide +kernel) (by decide +kernel)
theorem mw_524 : (Jvm.Cond.methodLink "MosaicFloor$Stock" (69 : Nat) ({ cls := "MosaicFloor$Stock", name := "atHandOf", desc := "(I)I" } : Jvm.MethodName)) ∈ mm_gw := mm_gwI 569 (by decide +kernel) (by decide +kernel)
theorem mw_526 : (Jvm.Cond.instanceMethod ({ cls := "MosaicFloor$Stock", name := "atHandOf", desc := "(I)I" } : Jvm.MethodName)) ∈ mm_gw := mm_gwI 571 (by decide +kernel) (by decide +kernel)
theorem mw_527 : (Jvm.Cond.code ({ cls := "MosaicFloor$Stock", name := "atHandOf", desc := "(I)I" } : Jvm.MethodName) prog_5_method_8_code (2 : Nat) (Option.some Jvm.ClassFile.FieldType.int)) ∈ mm_gw := mm_gwI 572 (by decide +kernel) (by decide +kernel)
theorem mw_528 : (Jvm.Cond.methodLink "MosaicFloor$Stock" (105 : Nat) ({ cls := "MosaicFloor$Stock", name := "firstStripGivingOrNull", desc := "(I)LMosaicFloor$Strip;" } : Jvm.MethodName)) ∈ mm_gw := mm_gwI 573 (by decide +kernel) (by decide +kernel)
theorem mw_530 : (Jvm.Cond.instanceMethod ({ cls := "MosaicFloor$Stock", name := "firstStripGivingOrNull", desc := "(I)LMosaicFloor$Strip;" } : Jvm.MethodName)) ∈ mm_gw := mm_gwI 575 (by decide +kernel) (by decide +kernel)
theorem mw_531 : (Jvm.Cond.code ({ cls := "MosaicFloor$Stock", name := "firstStripGivingOrNull", desc := "(I)LMosaicFloor$Strip;" } : Jvm.MethodName) prog_5_method_17_code (6 : Nat) (Option.some (Jvm.ClassFile.FieldType.object "MosaicFloor$Strip"))) ∈ mm_gw := mm_gwI 576 (by decide +kernel) (by decide +kernel)
theorem mw_532 : (Jvm.Cond.methodLink "MosaicFloor$Stock" (109 : Nat) ({ cls := "MosaicFloor$Strip", name := "tesseraeAhead", desc := "(II)I" } : Jvm.MethodName)) ∈ mm_gw := mm_gwI 577 (by decide +kernel) (by decide +kernel)
theorem mw_533 : (Jvm.Cond.methodLink "MosaicFloor$Stock" (112 : Nat) ({ cls := "MosaicFloor$Stock", name := "cutFrom", desc := "(LMosaicFloor$Strip;)Z" } : Jvm.MethodName)) ∈ mm_gw := mm_gwI 578 (by decide +kernel) (by decide +kernel)
theorem mw_534 : (Jvm.Cond.methodLink "MosaicFloor$State" (91 : Nat) ({ cls := "MosaicFloor$Stock", name := "takeFromHand", desc := "(I)V" } : Jvm.MethodName)) ∈ mm_gw := mm_gwI 579 (by decide +kernel) (by decide +kernel)
theorem mw_535 : (Jvm.Cond.instanceMethod ({ cls := "MosaicFloor$Stock", name := "takeFromHand", desc := "(I)V" } : Jvm.MethodName)) ∈ mm_gw := mm_gwI 580 (by decide +kernel) (by decide +kernel)
theorem mw_537 : (Jvm.Cond.code ({ cls := "MosaicFloor$Stock", name := "takeFromHand", desc := "(I)V" } : Jvm.MethodName) prog_5_method_10_code (2 : Nat) (Option.none : Option Jvm.ClassFile.FieldType)) ∈ mm_gw := mm_gwI 582 (by decide +kernel) (by decide +kernel)
theorem mw_538 : (Jvm.Cond.methodLink "MosaicFloor$State" (94 : Nat) ({ cls := "MosaicFloor$State", name := "putAt", desc := "(III)V" } : Jvm.MethodName)) ∈ mm_gw := mm_gwI 583 (by decide +kernel) (by decide +kernel)
theorem mw_540 : (Jvm.Cond.instanceMethod ({ cls := "MosaicFloor$State", name := "putAt", desc := "(III)V" } : Jvm.MethodName)) ∈ mm_gw := mm_gwI 585 (by decide +kernel) (by decide +kernel)
theorem mw_541 : (Jvm.Cond.code ({ cls := "MosaicFloor$State", name := "putAt", desc := "(III)V" } : Jvm.MethodName) prog_4_method_4_code (4 : Nat) (Option.none : Option Jvm.ClassFile.FieldType)) ∈ mm_gw := mm_gwI 586 (by decide +kernel) (by decide +kernel)
theorem mw_546 : (Jvm.Cond.methodLink "MosaicFloor" (190 : Nat) ({ cls := "MosaicFloor$State", name := "layEmptyCells", desc := "()I" } : Jvm.MethodName)) ∈ mm_gw := mm_gwI 591 (by decide +kernel) (by decide +kernel)
theorem mw_547 : (Jvm.Cond.instanceMethod ({ cls := "MosaicFloor$State", name := "layEmptyCells", desc := "()I" } : Jvm.MethodName)) ∈ mm_gw := mm_gwI 592 (by decide +kernel) (by decide +kernel)
theorem mw_549 : (Jvm.Cond.code ({ cls := "MosaicFloor$State", name := "layEmptyCells", desc := "()I" } : Jvm.MethodName) prog_4_method_12_code (4 : Nat) (Option.some Jvm.ClassFile.FieldType.int)) ∈ mm_gw := mm_gwI 594 (by decide +kernel) (by decide +kernel)
theorem mw_550 : (Jvm.Cond.methodLink "MosaicFloor$State" (98 : Nat) ({ cls := "MosaicFloor$State", name := "laidCells", desc := "()I" } : Jvm.MethodName)) ∈ mm_gw := mm_gwI 595 (by decide +kernel) (by decide +kernel)
theorem mw_551 : (Jvm.Cond.methodLink "MosaicFloor$State" (102 : Nat) ({ cls := "MosaicFloor$Plan", name := "borderCells", desc := "()I" } : Jvm.MethodName)) ∈ mm_gw := mm_gwI 596 (by decide +kernel) (by decide +kernel)
theorem mw_552 : (Jvm.Cond.methodLink "MosaicFloor$State" (105 : Nat) ({ cls := "MosaicFloor$Plan", name := "columnOf", desc := "(I)I" } : Jvm.MethodName)) ∈ mm_gw := mm_gwI 597 (by decide +kernel) (by decide +kernel)
theorem mw_553 : (Jvm.Cond.instanceMethod ({ cls := "MosaicFloor$Plan", name := "columnOf", desc := "(I)I" } : Jvm.MethodName)) ∈ mm_gw := mm_gwI 598 (by decide +kernel) (by decide +kernel)
theorem mw_555 : (Jvm.Cond.code ({ cls := "MosaicFloor$Plan", name := "columnOf", desc := "(I)I" } : Jvm.MethodName) prog_3_method_10_code (2 : Nat) (Option.some Jvm.ClassFile.FieldType.int)) ∈ mm_gw := mm_gwI 600 (by decide +kernel) (by decide +kernel)
theorem mw_556 : (Jvm.Cond.methodLink "MosaicFloor$Plan" (63 : Nat) ({ cls := "java/lang/Math", name := "max", desc := "(II)I" } : Jvm.MethodName)) ∈ mm_gw := mm_gwI 601 (by decide +kernel) (by decide +kernel)
theorem mw_557 : (Jvm.Cond.methodLink "MosaicFloor$State" (108 : Nat) ({ cls := "MosaicFloor$Plan", name := "rowOf", desc := "(I)I" } : Jvm.MethodName)) ∈ mm_gw := mm_gwI 602 (by decide +kernel) (by decide +kernel)
theorem mw_558 : (Jvm.Cond.instanceMethod ({ cls := "MosaicFloor$Plan", name := "rowOf", desc := "(I)I" } : Jvm.MethodName)) ∈ mm_gw := mm_gwI 603 (by decide +kernel) (by decide +kernel)
theorem mw_560 : (Jvm.Cond.code ({ cls := "MosaicFloor$Plan", name := "rowOf", desc := "(I)I" } : Jvm.MethodName) prog_3_method_11_code (2 : Nat) (Option.some Jvm.ClassFile.FieldType.int)) ∈ mm_gw := mm_gwI 605 (by decide +kernel) (by decide +kernel)
theorem mw_561 : (Jvm.Cond.methodLink "MosaicFloor$State" (111 : Nat) ({ cls := "MosaicFloor$State", name := "layCellIfPossible", desc := "(II)V" } : Jvm.MethodName)) ∈ mm_gw := mm_gwI 606 (by decide +kernel) (by decide +kernel)
theorem mw_566 : (Jvm.Cond.methodLink "MosaicFloor" (193 : Nat) ({ cls := "MosaicFloor$State", name := "liftToHand", desc := "(II)Z" } : Jvm.MethodName)) ∈ mm_gw := mm_gwI 611 (by decide +kernel) (by decide +kernel)
theorem mw_567 : (Jvm.Cond.instanceMethod ({ cls := "MosaicFloor$State", name := "liftToHand", desc := "(II)Z" } : Jvm.MethodName)) ∈ mm_gw := mm_gwI 612 (by decide +kernel) (by decide +kernel)
theorem mw_569 : (Jvm.Cond.code ({ cls := "MosaicFloor$State", name := "liftToHand", desc := "(II)Z" } : Jvm.MethodName) prog_4_method_13_code (4 : Nat) (Option.some Jvm.ClassFile.FieldType.boolean)) ∈ mm_gw := mm_gwI 614 (by decide +kernel) (by decide +kernel)
theorem mw_570 : (Jvm.Cond.methodLink "MosaicFloor$State" (115 : Nat) ({ cls := "MosaicFloor$Stock", name := "addBroken", desc := "()V" } : Jvm.MethodName)) ∈ mm_gw := mm_gwI 615 (by decide +kernel) (by decide +kernel)
theorem mw_571 : (Jvm.Cond.methodLink "MosaicFloor$State" (118 : Nat) ({ cls := "MosaicFloor$Stock", name := "putAtHand", desc := "(I)V" } : Jvm.MethodName)) ∈ mm_gw := mm_gwI 616 (by decide +kernel) (by decide +kernel)
theorem mw_580 : (Jvm.Cond.methodLink "MosaicFloor" (196 : Nat) ({ cls := "MosaicFloor$Stock", name := "readyOf", desc := "(I)I" } : Jvm.MethodName)) ∈ mm_gw := mm_gwI 625 (by decide +kernel) (by decide +kernel)
theorem mw_581 : (Jvm.Cond.instanceMethod ({ cls := "MosaicFloor$Stock", name := "readyOf", desc := "(I)I" } : Jvm.MethodName)) ∈ mm_gw := mm_gwI 626 (by decide +kernel) (by decide +kernel)
theorem mw_583 : (Jvm.Cond.code ({ cls := "MosaicFloor$Stock", name := "readyOf", desc := "(I)I" } : Jvm.MethodName) prog_5_method_13_code (7 : Nat) (Option.some Jvm.ClassFile.FieldType.int)) ∈ mm_gw := mm_gwI 628 (by decide +kernel) (by decide +kernel)
theorem mw_584 : (Jvm.Cond.methodLink "MosaicFloor$Stock" (85 : Nat) ({ cls := "MosaicFloor$Strip", name := "goodTesseraeAhead", desc := "(II)I" } : Jvm.MethodName)) ∈ mm_gw := mm_gwI 629 (by decide +kernel) (by decide +kernel)
theorem mw_589 : (Jvm.Cond.methodLink "MosaicFloor" (199 : Nat) ({ cls := "MosaicFloor$State", name := "lackOf", desc := "(I)I" } : Jvm.MethodName)) ∈ mm_gw := mm_gwI 634 (by decide +kernel) (by decide +kernel)
theorem mw_590 : (Jvm.Cond.instanceMethod ({ cls := "MosaicFloor$State", name := "lackOf", desc := "(I)I" } : Jvm.MethodName)) ∈ mm_gw := mm_gwI 635 (by decide +kernel) (by decide +kernel)
theorem mw_592 : (Jvm.Cond.code ({ cls := "MosaicFloor$State", name := "lackOf", desc := "(I)I" } : Jvm.MethodName) prog_4_method_14_code (5 : Nat) (Option.some Jvm.ClassFile.FieldType.int)) ∈ mm_gw := mm_gwI 637 (by decide +kernel) (by decide +kernel)
theorem mw_593 : (Jvm.Cond.methodLink "MosaicFloor$State" (121 : Nat) ({ cls := "MosaicFloor$Stock", name := "readyOf", desc := "(I)I" } : Jvm.MethodName)) ∈ mm_gw := mm_gwI 638 (by decide +kernel) (by decide +kernel)
theorem mw_598 : (Jvm.Cond.methodLink "MosaicFloor" (202 : Nat) ({ cls := "java/lang/Math", name := "max", desc := "(II)I" } : Jvm.MethodName)) ∈ mm_gw := mm_gwI 643 (by decide +kernel) (by decide +kernel)
theorem mw_603 : (Jvm.Cond.methodLink "MosaicFloor" (207 : Nat) ({ cls := "MosaicFloor$State", name := "copyFrom", desc := "(LMosaicFloor$State;)V" } : Jvm.MethodName)) ∈ mm_gw := mm_gwI 648 (by decide +kernel) (by decide +kernel)
theorem mw_608 : (Jvm.Cond.methodLink "MosaicFloor" (214 : Nat) ({ cls := "MosaicFloor$Text", name := "append", desc := "(I)V" } : Jvm.MethodName)) ∈ mm_gw := mm_gwI 653 (by decide +kernel) (by decide +kernel)
theorem mw_609 : (Jvm.Cond.instanceMethod ({ cls := "MosaicFloor$Text", name := "append", desc := "(I)V" } : Jvm.MethodName)) ∈ mm_gw := mm_gwI 654 (by decide +kernel) (by decide +kernel)
theorem mw_611 : (Jvm.Cond.code ({ cls := "MosaicFloor$Text", name := "append", desc := "(I)V" } : Jvm.MethodName) prog_7_method_2_code (2 : Nat) (Option.none : Option Jvm.ClassFile.FieldType)) ∈ mm_gw := mm_gwI 656 (by decide +kernel) (by decide +kernel)
theorem mw_625 : (Jvm.Cond.methodLink "MosaicFloorModel" (1 : Nat) ({ cls := "java/lang/Object", name := "<init>", desc := "()V" } : Jvm.MethodName)) ∈ mm_gw := mm_gwI 670 (by decide +kernel) (by decide +kernel)
theorem mw_626 : (Jvm.Cond.methodLink "MosaicFloorModel" (25 : Nat) ({ cls := "MosaicFloorModel", name := "beginWith", desc := "(II)V" } : Jvm.MethodName)) ∈ mm_gw := mm_gwI 671 (by decide +kernel) (by decide +kernel)
theorem mw_628 : (Jvm.Cond.instanceMethod ({ cls := "MosaicFloorModel", name := "beginWith", desc := "(II)V" } : Jvm.MethodName)) ∈ mm_gw := mm_gwI 673 (by decide +kernel) (by decide +kernel)
theorem mw_629 : (Jvm.Cond.code ({ cls := "MosaicFloorModel", name := "beginWith", desc := "(II)V" } : Jvm.MethodName) prog_9_method_7_code (4 : Nat) (Option.none : Option Jvm.ClassFile.FieldType)) ∈ mm_gw := mm_gwI 674 (by decide +kernel) (by decide +kernel)
theorem mw_630 : (Jvm.Cond.fieldLink "MosaicFloorModel" (7 : Nat) "MosaicFloorModel" "m" "[I") ∈ mm_gw := mm_gwI 675 (by decide +kernel) (by decide +kernel)
theorem mw_631 : (Jvm.Cond.fieldLink "MosaicFloorModel" (13 : Nat) "MosaicFloorModel" "spare" "[I") ∈ mm_gw := mm_gwI 676 (by decide +kernel) (by decide +kernel)
theorem mw_632 : (Jvm.Cond.fieldLink "MosaicFloorModel" (16 : Nat) "MosaicFloorModel" "saved" "[I") ∈ mm_gw := mm_gwI 677 (by decide +kernel) (by decide +kernel)
theorem mw_633 : (Jvm.Cond.fieldLink "MosaicFloorModel" (29 : Nat) "MosaicFloorModel" "savedCount" "I") ∈ mm_gw := mm_gwI 678 (by decide +kernel) (by decide +kernel)
theorem mw_634 : (Jvm.Cond.fieldLink "MosaicFloorModel" (19 : Nat) "MosaicFloorModel" "text" "[I") ∈ mm_gw := mm_gwI 679 (by decide +kernel) (by decide +kernel)
theorem mw_635 : (Jvm.Cond.fieldLink "MosaicFloorModel" (99 : Nat) "MosaicFloorModel" "textLength" "I") ∈ mm_gw := mm_gwI 680 (by decide +kernel) (by decide +kernel)
theorem mw_636 : (Jvm.Cond.fieldLink "MosaicFloorModel" (22 : Nat) "MosaicFloorModel" "read" "[I") ∈ mm_gw := mm_gwI 681 (by decide +kernel) (by decide +kernel)
theorem mw_637 : (Jvm.Cond.fieldLink "MosaicFloorModel" (150 : Nat) "MosaicFloorModel" "readCount" "I") ∈ mm_gw := mm_gwI 682 (by decide +kernel) (by decide +kernel)
theorem mw_659 : (Jvm.Cond.methodLink "MosaicFloorModel" (37 : Nat) ({ cls := "MosaicFloorModel", name := "in", desc := "(III)Z" } : Jvm.MethodName)) ∈ mm_gw := mm_gwI 704 (by decide +kernel) (by decide +kernel)
theorem mw_660 : (Jvm.Cond.static ({ cls := "MosaicFloorModel", name := "in", desc := "(III)Z" } : Jvm.MethodName)) ∈ mm_gw := mm_gwI 705 (by decide +kernel) (by decide +kernel)
theorem mw_661 : (Jvm.Cond.code ({ cls := "MosaicFloorModel", name := "in", desc := "(III)Z" } : Jvm.MethodName) prog_9_method_2_code (3 : Nat) (Option.some Jvm.ClassFile.FieldType.boolean)) ∈ mm_gw := mm_gwI 706 (by decide +kernel) (by decide +kernel)
theorem mw_662 : (Jvm.Cond.methodLink "MosaicFloorModel" (59 : Nat) ({ cls := "MosaicFloorModel", name := "laidCells", desc := "()I" } : Jvm.MethodName)) ∈ mm_gw := mm_gwI 707 (by decide +kernel) (by decide +kernel)
theorem mw_664 : (Jvm.Cond.instanceMethod ({ cls := "MosaicFloorModel", name := "laidCells", desc := "()I" } : Jvm.MethodName)) ∈ mm_gw := mm_gwI 709 (by decide +kernel) (by decide +kernel)
theorem mw_665 : (Jvm.Cond.code ({ cls := "MosaicFloorModel", name := "laidCells", desc := "()I" } : Jvm.MethodName) prog_9_method_10_code (3 : Nat) (Option.some Jvm.ClassFile.FieldType.int)) ∈ mm_gw := mm_gwI 710 (by decide +kernel) (by decide +kernel)
theorem mw_666 : (Jvm.Cond.methodLink "MosaicFloorModel" (41 : Nat) ({ cls := "MosaicFloorModel", name := "cells", desc := "()I" } : Jvm.MethodName)) ∈ mm_gw := mm_gwI 711 (by decide +kernel) (by decide +kernel)
theorem mw_668 : (Jvm.Cond.instanceMethod ({ cls := "MosaicFloorModel", name := "cells", desc := "()I" } : Jvm.MethodName)) ∈ mm_gw := mm_gwI 713 (by decide +kernel) (by decide +kernel)
theorem mw_669 : (Jvm.Cond.code ({ cls := "MosaicFloorModel", name := "cells", desc := "()I" } : Jvm.MethodName) prog_9_method_9_code (1 : Nat) (Option.some Jvm.ClassFile.FieldType.int)) ∈ mm_gw := mm_gwI 714 (by decide +kernel) (by decide +kernel)
theorem mw_670 : (Jvm.Cond.methodLink "MosaicFloorModel" (62 : Nat) ({ cls := "MosaicFloorModel", name := "keep", desc := "()V" } : Jvm.MethodName)) ∈ mm_gw := mm_gwI 715 (by decide +kernel) (by decide +kernel)
theorem mw_672 : (Jvm.Cond.instanceMethod ({ cls := "MosaicFloorModel", name := "keep", desc := "()V" } : Jvm.MethodName)) ∈ mm_gw := mm_gwI 717 (by decide +kernel) (by decide +kernel)
theorem mw_673 : (Jvm.Cond.code ({ cls := "MosaicFloorModel", name := "keep", desc := "()V" } : Jvm.MethodName) prog_9_method_6_code (2 : Nat) (Option.none : Option Jvm.ClassFile.FieldType)) ∈ mm_gw := mm_gwI 718 (by decide +kernel) (by decide +kernel)
theorem mw_674 : (Jvm.Cond.methodLink "MosaicFloorModel" (33 : Nat) ({ cls := "MosaicFloorModel", name := "bring", desc := "([II[II)V" } : Jvm.MethodName)) ∈ mm_gw := mm_gwI 719 (by decide +kernel) (by decide +kernel)
theorem mw_675 : (Jvm.Cond.static ({ cls := "MosaicFloorModel", name := "bring", desc := "([II[II)V" } : Jvm.MethodName)) ∈ mm_gw := mm_gwI 720 (by decide +kernel) (by decide +kernel)
theorem mw_676 : (Jvm.Cond.code ({ cls := "MosaicFloorModel", name := "bring", desc := "([II[II)V" } : Jvm.MethodName) prog_9_method_5_code (5 : Nat) (Option.none : Option Jvm.ClassFile.FieldType)) ∈ mm_gw := mm_gwI 721 (by decide +kernel) (by decide +kernel)
theorem mw_681 : (Jvm.Cond.methodLink "MosaicFloorModel" (65 : Nat) ({ cls := "MosaicFloorModel", name := "atHand", desc := "()I" } : Jvm.MethodName)) ∈ mm_gw := mm_gwI 726 (by decide +kernel) (by decide +kernel)
theorem mw_683 : (Jvm.Cond.instanceMethod ({ cls := "MosaicFloorModel", name := "atHand", desc := "()I" } : Jvm.MethodName)) ∈ mm_gw := mm_gwI 728 (by decide +kernel) (by decide +kernel)
theorem mw_684 : (Jvm.Cond.code ({ cls := "MosaicFloorModel", name := "atHand", desc := "()I" } : Jvm.MethodName) prog_9_method_17_code (3 : Nat) (Option.some Jvm.ClassFile.FieldType.int)) ∈ mm_gw := mm_gwI 729 (by decide +kernel) (by decide +kernel)
theorem mw_693 : (Jvm.Cond.methodLink "MosaicFloorModel" (68 : Nat) ({ cls := "MosaicFloorModel", name := "isCell", desc := "(II)Z" } : Jvm.MethodName)) ∈ mm_gw := mm_gwI 738 (by decide +kernel) (by decide +kernel)
theorem mw_695 : (Jvm.Cond.instanceMethod ({ cls := "MosaicFloorModel", name := "isCell", desc := "(II)Z" } : Jvm.MethodName)) ∈ mm_gw := mm_gwI 740 (by decide +kernel) (by decide +kernel)
theorem mw_696 : (Jvm.Cond.code ({ cls := "MosaicFloorModel", name := "isCell", desc := "(II)Z" } : Jvm.MethodName) prog_9_method_8_code (3 : Nat) (Option.some Jvm.ClassFile.FieldType.boolean)) ∈ mm_gw := mm_gwI 741 (by decide +kernel) (by decide +kernel)
theorem mw_697 : (Jvm.Cond.methodLink "MosaicFloorModel" (49 : Nat) ({ cls := "MosaicFloorModel", name := "borderOf", desc := "(II)I" } : Jvm.MethodName)) ∈ mm_gw := mm_gwI 742 (by decide +kernel) (by decide +kernel)
theorem mw_699 : (Jvm.Cond.instanceMethod ({ cls := "MosaicFloorModel", name := "borderOf", desc := "(II)I" } : Jvm.MethodName)) ∈ mm_gw := mm_gwI 744 (by decide +kernel) (by decide +kernel)
theorem mw_700 : (Jvm.Cond.code ({ cls := "MosaicFloorModel", name := "borderOf", desc := "(II)I" } : Jvm.MethodName) prog_9_method_12_code (5 : Nat) (Option.some Jvm.ClassFile.FieldType.int)) ∈ mm_gw := mm_gwI 745 (by decide +kernel) (by decide +kernel)
theorem mw_705 : (Jvm.Cond.methodLink "MosaicFloorModel" (81 : Nat) ({ cls := "MosaicFloorModel", name := "cellOf", desc := "(III)I" } : Jvm.MethodName)) ∈ mm_gw := mm_gwI 750 (by decide +kernel) (by decide +kernel)
theorem mw_707 : (Jvm.Cond.instanceMethod ({ cls := "MosaicFloorModel", name := "cellOf", desc := "(III)I" } : Jvm.MethodName)) ∈ mm_gw := mm_gwI 752 (by decide +kernel) (by decide +kernel)
theorem mw_708 : (Jvm.Cond.code ({ cls := "MosaicFloorModel", name := "cellOf", desc := "(III)I" } : Jvm.MethodName) prog_9_method_22_code (5 : Nat) (Option.some Jvm.ClassFile.FieldType.int)) ∈ mm_gw := mm_gwI 753 (by decide +kernel) (by decide +kernel)
theorem mw_709 : (Jvm.Cond.methodLink "MosaicFloorModel" (72 : Nat) ({ cls := "MosaicFloorModel", name := "wanted", desc := "(I)I" } : Jvm.MethodName)) ∈ mm_gw := mm_gwI 754 (by decide +kernel) (by decide +kernel)
theorem mw_711 : (Jvm.Cond.instanceMethod ({ cls := "MosaicFloorModel", name := "wanted", desc := "(I)I" } : Jvm.MethodName)) ∈ mm_gw := mm_gwI 756 (by decide +kernel) (by decide +kernel)
theorem mw_712 : (Jvm.Cond.code ({ cls := "MosaicFloorModel", name := "wanted", desc := "(I)I" } : Jvm.MethodName) prog_9_method_14_code (3 : Nat) (Option.some Jvm.ClassFile.FieldType.int)) ∈ mm_gw := mm_gwI 757 (by decide +kernel) (by decide +kernel)
theorem mw_713 : (Jvm.Cond.methodLink "MosaicFloorModel" (52 : Nat) ({ cls := "MosaicFloorModel", name := "borderWants", desc := "(I)I" } : Jvm.MethodName)) ∈ mm_gw := mm_gwI 758 (by decide +kernel) (by decide +kernel)
theorem mw_715 : (Jvm.Cond.instanceMethod ({ cls := "MosaicFloorModel", name := "borderWants", desc := "(I)I" } : Jvm.MethodName)) ∈ mm_gw := mm_gwI 760 (by decide +kernel) (by decide +kernel)
theorem mw_716 : (Jvm.Cond.code ({ cls := "MosaicFloorModel", name := "borderWants", desc := "(I)I" } : Jvm.MethodName) prog_9_method_13_code (6 : Nat) (Option.some Jvm.ClassFile.FieldType.int)) ∈ mm_gw := mm_gwI 761 (by decide +kernel) (by decide +kernel)
theorem mw_717 : (Jvm.Cond.methodLink "MosaicFloorModel" (45 : Nat) ({ cls := "MosaicFloorModel", name := "lesser", desc := "(II)I" } : Jvm.MethodName)) ∈ mm_gw := mm_gwI 762 (by decide +kernel) (by decide +kernel)
theorem mw_718 : (Jvm.Cond.static ({ cls := "MosaicFloorModel", name := "lesser", desc := "(II)I" } : Jvm.MethodName)) ∈ mm_gw := mm_gwI 763 (by decide +kernel) (by decide +kernel)
theorem mw_719 : (Jvm.Cond.code ({ cls := "MosaicFloorModel", name := "lesser", desc := "(II)I" } : Jvm.MethodName) prog_9_method_3_code (2 : Nat) (Option.some Jvm.ClassFile.FieldType.int)) ∈ mm_gw := mm_gwI 764 (by decide +kernel) (by decide +kernel)
theorem mw_720 : (Jvm.Cond.methodLink "MosaicFloorModel" (78 : Nat) ({ cls := "MosaicFloorModel", name := "difference", desc := "(I)I" } : Jvm.MethodName)) ∈ mm_gw := mm_gwI 765 (by decide +kernel) (by decide +kernel)
theorem mw_722 : (Jvm.Cond.instanceMethod ({ cls := "MosaicFloorModel", name := "difference", desc := "(I)I" } : Jvm.MethodName)) ∈ mm_gw := mm_gwI 767 (by decide +kernel) (by decide +kernel)
theorem mw_723 : (Jvm.Cond.code ({ cls := "MosaicFloorModel", name := "difference", desc := "(I)I" } : Jvm.MethodName) prog_9_method_21_code (2 : Nat) (Option.some Jvm.ClassFile.FieldType.int)) ∈ mm_gw := mm_gwI 768 (by decide +kernel) (by decide +kernel)
theorem mw_724 : (Jvm.Cond.methodLink "MosaicFloorModel" (75 : Nat) ({ cls := "MosaicFloorModel", name := "size", desc := "(I)I" } : Jvm.MethodName)) ∈ mm_gw := mm_gwI 769 (by decide +kernel) (by decide +kernel)
theorem mw_725 : (Jvm.Cond.static ({ cls := "MosaicFloorModel", name := "size", desc := "(I)I" } : Jvm.MethodName)) ∈ mm_gw := mm_gwI 770 (by decide +kernel) (by decide +kernel)
theorem mw_726 : (Jvm.Cond.code ({ cls := "MosaicFloorModel", name := "size", desc := "(I)I" } : Jvm.MethodName) prog_9_method_4_code (1 : Nat) (Option.some Jvm.ClassFile.FieldType.int)) ∈ mm_gw := mm_gwI 771 (by decide +kernel) (by decide +kernel)
theorem mw_731 : (Jvm.Cond.methodLink "MosaicFloorModel" (56 : Nat) ({ cls := "MosaicFloorModel", name := "around", desc := "()I" } : Jvm.MethodName)) ∈ mm_gw := mm_gwI 776 (by decide +kernel) (by decide +kernel)
theorem mw_733 : (Jvm.Cond.instanceMethod ({ cls := "MosaicFloorModel", name := "around", desc := "()I" } : Jvm.MethodName)) ∈ mm_gw := mm_gwI 778 (by decide +kernel) (by decide +kernel)
theorem mw_734 : (Jvm.Cond.code ({ cls := "MosaicFloorModel", name := "around", desc := "()I" } : Jvm.MethodName) prog_9_method_11_code (1 : Nat) (Option.some Jvm.ClassFile.FieldType.int)) ∈ mm_gw := mm_gwI 779 (by decide +kernel) (by decide +kernel)
theorem mw_735 : (Jvm.Cond.methodLink "MosaicFloorModel" (91 : Nat) ({ cls := "MosaicFloorModel", name := "meets", desc := "()Z" } : Jvm.MethodName)) ∈ mm_gw := mm_gwI 780 (by decide +kernel) (by decide +kernel)
theorem mw_737 : (Jvm.Cond.instanceMethod ({ cls := "MosaicFloorModel", name := "meets", desc := "()Z" } : Jvm.MethodName)) ∈ mm_gw := mm_gwI 782 (by decide +kernel) (by decide +kernel)
theorem mw_738 : (Jvm.Cond.code ({ cls := "MosaicFloorModel", name := "meets", desc := "()Z" } : Jvm.MethodName) prog_9_method_15_code (4 : Nat) (Option.some Jvm.ClassFile.FieldType.boolean)) ∈ mm_gw := mm_gwI 783 (by decide +kernel) (by decide +kernel)
theorem mw_739 : (Jvm.Cond.methodLink "MosaicFloorModel" (95 : Nat) ({ cls := "MosaicFloorModel", name := "differences", desc := "(Z)I" } : Jvm.MethodName)) ∈ mm_gw := mm_gwI 784 (by decide +kernel) (by decide +kernel)
theorem mw_741 : (Jvm.Cond.instanceMethod ({ cls := "MosaicFloorModel", name := "differences", desc := "(Z)I" } : Jvm.MethodName)) ∈ mm_gw := mm_gwI 786 (by decide +kernel) (by decide +kernel)
theorem mw_742 : (Jvm.Cond.code ({ cls := "MosaicFloorModel", name := "differences", desc := "(Z)I" } : Jvm.MethodName) prog_9_method_24_code (5 : Nat) (Option.some Jvm.ClassFile.FieldType.int)) ∈ mm_gw := mm_gwI 787 (by decide +kernel) (by decide +kernel)
theorem mw_743 : (Jvm.Cond.methodLink "MosaicFloorModel" (102 : Nat) ({ cls := "MosaicFloorModel", name := "account", desc := "(I)I" } : Jvm.MethodName)) ∈ mm_gw := mm_gwI 788 (by decide +kernel) (by decide +kernel)
theorem mw_745 : (Jvm.Cond.instanceMethod ({ cls := "MosaicFloorModel", name := "account", desc := "(I)I" } : Jvm.MethodName)) ∈ mm_gw := mm_gwI 790 (by decide +kernel) (by decide +kernel)
theorem mw_746 : (Jvm.Cond.code ({ cls := "MosaicFloorModel", name := "account", desc := "(I)I" } : Jvm.MethodName) prog_9_method_25_code (5 : Nat) (Option.some Jvm.ClassFile.FieldType.int)) ∈ mm_gw := mm_gwI 791 (by decide +kernel) (by decide +kernel)
theorem mw_747 : (Jvm.Cond.methodLink "MosaicFloorModel" (85 : Nat) ({ cls := "MosaicFloorModel", name := "of", desc := "(II)I" } : Jvm.MethodName)) ∈ mm_gw := mm_gwI 792 (by decide +kernel) (by decide +kernel)
theorem mw_749 : (Jvm.Cond.instanceMethod ({ cls := "MosaicFloorModel", name := "of", desc := "(II)I" } : Jvm.MethodName)) ∈ mm_gw := mm_gwI 794 (by decide +kernel) (by decide +kernel)
theorem mw_750 : (Jvm.Cond.code ({ cls := "MosaicFloorModel", name := "of", desc := "(II)I" } : Jvm.MethodName) prog_9_method_29_code (3 : Nat) (Option.some Jvm.ClassFile.FieldType.int)) ∈ mm_gw := mm_gwI 795 (by decide +kernel) (by decide +kernel)
theorem mw_751 : (Jvm.Cond.methodLink "MosaicFloorModel" (88 : Nat) ({ cls := "MosaicFloorModel", name := "left", desc := "(I)I" } : Jvm.MethodName)) ∈ mm_gw := mm_gwI 796 (by decide +kernel) (by decide +kernel)
theorem mw_753 : (Jvm.Cond.instanceMethod ({ cls := "MosaicFloorModel", name := "left", desc := "(I)I" } : Jvm.MethodName)) ∈ mm_gw := mm_gwI 798 (by decide +kernel) (by decide +kernel)
theorem mw_754 : (Jvm.Cond.code ({ cls := "MosaicFloorModel", name := "left", desc := "(I)I" } : Jvm.MethodName) prog_9_method_32_code (2 : Nat) (Option.some Jvm.ClassFile.FieldType.int)) ∈ mm_gw := mm_gwI 799 (by decide +kernel) (by decide +kernel)
theorem mw_767 : (Jvm.Cond.methodLink "MosaicFloorModel" (105 : Nat) ({ cls := "MosaicFloorModel", name := "put", desc := "(III)V" } : Jvm.MethodName)) ∈ mm_gw := mm_gwI 812 (by decide +kernel) (by decide +kernel)
theorem mw_769 : (Jvm.Cond.instanceMethod ({ cls := "MosaicFloorModel", name := "put", desc := "(III)V" } : Jvm.MethodName)) ∈ mm_gw := mm_gwI 814 (by decide +kernel) (by decide +kernel)
theorem mw_770 : (Jvm.Cond.code ({ cls := "MosaicFloorModel", name := "put", desc := "(III)V" } : Jvm.MethodName) prog_9_method_30_code (4 : Nat) (Option.none : Option Jvm.ClassFile.FieldType)) ∈ mm_gw := mm_gwI 815 (by decide +kernel) (by decide +kernel)
theorem mw_775 : (Jvm.Cond.methodLink "MosaicFloorModel" (109 : Nat) ({ cls := "MosaicFloorModel", name := "isStrip", desc := "(I)Z" } : Jvm.MethodName)) ∈ mm_gw := mm_gwI 820 (by decide +kernel) (by decide +kernel)
theorem mw_777 : (Jvm.Cond.instanceMethod ({ cls := "MosaicFloorModel", name := "isStrip", desc := "(I)Z" } : Jvm.MethodName)) ∈ mm_gw := mm_gwI 822 (by decide +kernel) (by decide +kernel)
theorem mw_778 : (Jvm.Cond.code ({ cls := "MosaicFloorModel", name := "isStrip", desc := "(I)Z" } : Jvm.MethodName) prog_9_method_31_code (2 : Nat) (Option.some Jvm.ClassFile.FieldType.boolean)) ∈ mm_gw := mm_gwI 823 (by decide +kernel) (by decide +kernel)
theorem mw_779 : (Jvm.Cond.methodLink "MosaicFloorModel" (113 : Nat) ({ cls := "MosaicFloorModel", name := "hasFlaw", desc := "(III)Z" } : Jvm.MethodName)) ∈ mm_gw := mm_gwI 824 (by decide +kernel) (by decide +kernel)
theorem mw_781 : (Jvm.Cond.instanceMethod ({ cls := "MosaicFloorModel", name := "hasFlaw", desc := "(III)Z" } : Jvm.MethodName)) ∈ mm_gw := mm_gwI 826 (by decide +kernel) (by decide +kernel)
theorem mw_782 : (Jvm.Cond.code ({ cls := "MosaicFloorModel", name := "hasFlaw", desc := "(III)Z" } : Jvm.MethodName) prog_9_method_34_code (6 : Nat) (Option.some Jvm.ClassFile.FieldType.boolean)) ∈ mm_gw := mm_gwI 827 (by decide +kernel) (by decide +kernel)
theorem mw_787 : (Jvm.Cond.methodLink "MosaicFloorModel" (116 : Nat) ({ cls := "MosaicFloorModel", name := "canCut", desc := "(I)Z" } : Jvm.MethodName)) ∈ mm_gw := mm_gwI 832 (by decide +kernel) (by decide +kernel)
theorem mw_789 : (Jvm.Cond.instanceMethod ({ cls := "MosaicFloorModel", name := "canCut", desc := "(I)Z" } : Jvm.MethodName)) ∈ mm_gw := mm_gwI 834 (by decide +kernel) (by decide +kernel)
theorem mw_790 : (Jvm.Cond.code ({ cls := "MosaicFloorModel", name := "canCut", desc := "(I)Z" } : Jvm.MethodName) prog_9_method_36_code (2 : Nat) (Option.some Jvm.ClassFile.FieldType.boolean)) ∈ mm_gw := mm_gwI 835 (by decide +kernel) (by decide +kernel)
theorem mw_791 : (Jvm.Cond.methodLink "MosaicFloorModel" (119 : Nat) ({ cls := "MosaicFloorModel", name := "cuts", desc := "(I)Z" } : Jvm.MethodName)) ∈ mm_gw := mm_gwI 836 (by decide +kernel) (by decide +kernel)
theorem mw_793 : (Jvm.Cond.instanceMethod ({ cls := "MosaicFloorModel", name := "cuts", desc := "(I)Z" } : Jvm.MethodName)) ∈ mm_gw := mm_gwI 838 (by decide +kernel) (by decide +kernel)
theorem mw_794 : (Jvm.Cond.code ({ cls := "MosaicFloorModel", name := "cuts", desc := "(I)Z" } : Jvm.MethodName) prog_9_method_37_code (5 : Nat) (Option.some Jvm.ClassFile.FieldType.boolean)) ∈ mm_gw := mm_gwI 839 (by decide +kernel) (by decide +kernel)
theorem mw_799 : (Jvm.Cond.methodLink "MosaicFloorModel" (126 : Nat) ({ cls := "MosaicFloorModel", name := "partOf", desc := "(II)I" } : Jvm.MethodName)) ∈ mm_gw := mm_gwI 844 (by decide +kernel) (by decide +kernel)
theorem mw_801 : (Jvm.Cond.instanceMethod ({ cls := "MosaicFloorModel", name := "partOf", desc := "(II)I" } : Jvm.MethodName)) ∈ mm_gw := mm_gwI 846 (by decide +kernel) (by decide +kernel)
theorem mw_802 : (Jvm.Cond.code ({ cls := "MosaicFloorModel", name := "partOf", desc := "(II)I" } : Jvm.MethodName) prog_9_method_40_code (3 : Nat) (Option.some Jvm.ClassFile.FieldType.int)) ∈ mm_gw := mm_gwI 847 (by decide +kernel) (by decide +kernel)
theorem mw_803 : (Jvm.Cond.methodLink "MosaicFloorModel" (122 : Nat) ({ cls := "MosaicFloorModel", name := "still", desc := "(IZ)I" } : Jvm.MethodName)) ∈ mm_gw := mm_gwI 848 (by decide +kernel) (by decide +kernel)
theorem mw_805 : (Jvm.Cond.instanceMethod ({ cls := "MosaicFloorModel", name := "still", desc := "(IZ)I" } : Jvm.MethodName)) ∈ mm_gw := mm_gwI 850 (by decide +kernel) (by decide +kernel)
theorem mw_806 : (Jvm.Cond.code ({ cls := "MosaicFloorModel", name := "still", desc := "(IZ)I" } : Jvm.MethodName) prog_9_method_39_code (5 : Nat) (Option.some Jvm.ClassFile.FieldType.int)) ∈ mm_gw := mm_gwI 851 (by decide +kernel) (by decide +kernel)
theorem mw_811 : (Jvm.Cond.methodLink "MosaicFloorModel" (132 : Nat) ({ cls := "MosaicFloorModel", name := "nearestTo", desc := "(I)I" } : Jvm.MethodName)) ∈ mm_gw := mm_gwI 856 (by decide +kernel) (by decide +kernel)
theorem mw_813 : (Jvm.Cond.instanceMethod ({ cls := "MosaicFloorModel", name := "nearestTo", desc := "(I)I" } : Jvm.MethodName)) ∈ mm_gw := mm_gwI 858 (by decide +kernel) (by decide +kernel)
theorem mw_814 : (Jvm.Cond.code ({ cls := "MosaicFloorModel", name := "nearestTo", desc := "(I)I" } : Jvm.MethodName) prog_9_method_43_code (5 : Nat) (Option.some Jvm.ClassFile.FieldType.int)) ∈ mm_gw := mm_gwI 859 (by decide +kernel) (by decide +kernel)
theorem mw_815 : (Jvm.Cond.methodLink "MosaicFloorModel" (129 : Nat) ({ cls := "MosaicFloorModel", name := "source", desc := "(I)I" } : Jvm.MethodName)) ∈ mm_gw := mm_gwI 860 (by decide +kernel) (by decide +kernel)
theorem mw_817 : (Jvm.Cond.instanceMethod ({ cls := "MosaicFloorModel", name := "source", desc := "(I)I" } : Jvm.MethodName)) ∈ mm_gw := mm_gwI 862 (by decide +kernel) (by decide +kernel)
theorem mw_818 : (Jvm.Cond.code ({ cls := "MosaicFloorModel", name := "source", desc := "(I)I" } : Jvm.MethodName) prog_9_method_42_code (3 : Nat) (Option.some Jvm.ClassFile.FieldType.int)) ∈ mm_gw := mm_gwI 863 (by decide +kernel) (by decide +kernel)
theorem mw_819 : (Jvm.Cond.methodLink "MosaicFloorModel" (135 : Nat) ({ cls := "MosaicFloorModel", name := "lays", desc := "(I)I" } : Jvm.MethodName)) ∈ mm_gw := mm_gwI 864 (by decide +kernel) (by decide +kernel)
theorem mw_821 : (Jvm.Cond.instanceMethod ({ cls := "MosaicFloorModel", name := "lays", desc := "(I)I" } : Jvm.MethodName)) ∈ mm_gw := mm_gwI 866 (by decide +kernel) (by decide +kernel)
theorem mw_822 : (Jvm.Cond.code ({ cls := "MosaicFloorModel", name := "lays", desc := "(I)I" } : Jvm.MethodName) prog_9_method_44_code (5 : Nat) (Option.some Jvm.ClassFile.FieldType.int)) ∈ mm_gw := mm_gwI 867 (by decide +kernel) (by decide +kernel)
theorem mw_827 : (Jvm.Cond.methodLink "MosaicFloorModel" (141 : Nat) ({ cls := "MosaicFloorModel", name := "laysAll", desc := "()I" } : Jvm.MethodName)) ∈ mm_gw := mm_gwI 872 (by decide +kernel) (by decide +kernel)
theorem mw_829 : (Jvm.Cond.instanceMethod ({ cls := "MosaicFloorModel", name := "laysAll", desc := "()I" } : Jvm.MethodName)) ∈ mm_gw := mm_gwI 874 (by decide +kernel) (by decide +kernel)
theorem mw_830 : (Jvm.Cond.code ({ cls := "MosaicFloorModel", name := "laysAll", desc := "()I" } : Jvm.MethodName) prog_9_method_47_code (7 : Nat) (Option.some Jvm.ClassFile.FieldType.int)) ∈ mm_gw := mm_gwI 875 (by decide +kernel) (by decide +kernel)
theorem mw_831 : (Jvm.Cond.methodLink "MosaicFloorModel" (138 : Nat) ({ cls := "MosaicFloorModel", name := "laysIfEmpty", desc := "(I)I" } : Jvm.MethodName)) ∈ mm_gw := mm_gwI 876 (by decide +kernel) (by decide +kernel)
theorem mw_833 : (Jvm.Cond.instanceMethod ({ cls := "MosaicFloorModel", name := "laysIfEmpty", desc := "(I)I" } : Jvm.MethodName)) ∈ mm_gw := mm_gwI 878 (by decide +kernel) (by decide +kernel)
theorem mw_834 : (Jvm.Cond.code ({ cls := "MosaicFloorModel", name := "laysIfEmpty", desc := "(I)I" } : Jvm.MethodName) prog_9_method_46_code (2 : Nat) (Option.some Jvm.ClassFile.FieldType.int)) ∈ mm_gw := mm_gwI 879 (by decide +kernel) (by decide +kernel)
theorem mw_847 : (Jvm.Cond.methodLink "MosaicFloorModel" (144 : Nat) ({ cls := "MosaicFloorModel", name := "readyOf", desc := "(I)I" } : Jvm.MethodName)) ∈ mm_gw := mm_gwI 892 (by decide +kernel) (by decide +kernel)
theorem mw_849 : (Jvm.Cond.instanceMethod ({ cls := "MosaicFloorModel", name := "readyOf", desc := "(I)I" } : Jvm.MethodName)) ∈ mm_gw := mm_gwI 894 (by decide +kernel) (by decide +kernel)
theorem mw_850 : (Jvm.Cond.code ({ cls := "MosaicFloorModel", name := "readyOf", desc := "(I)I" } : Jvm.MethodName) prog_9_method_51_code (4 : Nat) (Option.some Jvm.ClassFile.FieldType.int)) ∈ mm_gw := mm_gwI 895 (by decide +kernel) (by decide +kernel)
theorem mw_855 : (Jvm.Cond.methodLink "MosaicFloorModel" (147 : Nat) ({ cls := "MosaicFloorModel", name := "lacksOf", desc := "(I)I" } : Jvm.MethodName)) ∈ mm_gw := mm_gwI 900 (by decide +kernel) (by decide +kernel)
theorem mw_857 : (Jvm.Cond.instanceMethod ({ cls := "MosaicFloorModel", name := "lacksOf", desc := "(I)I" } : Jvm.MethodName)) ∈ mm_gw := mm_gwI 902 (by decide +kernel) (by decide +kernel)
theorem mw_858 : (Jvm.Cond.code ({ cls := "MosaicFloorModel", name := "lacksOf", desc := "(I)I" } : Jvm.MethodName) prog_9_method_53_code (4 : Nat) (Option.some Jvm.ClassFile.FieldType.int)) ∈ mm_gw := mm_gwI 903 (by decide +kernel) (by decide +kernel)
theorem mw_879 : (Jvm.Cond.methodLink "MosaicFloorModel" (153 : Nat) ({ cls := "MosaicFloorModel", name := "faultNow", desc := "()I" } : Jvm.MethodName)) ∈ mm_gw := mm_gwI 924 (by decide +kernel) (by decide +kernel)
theorem mw_881 : (Jvm.Cond.instanceMethod ({ cls := "MosaicFloorModel", name := "faultNow", desc := "()I" } : Jvm.MethodName)) ∈ mm_gw := mm_gwI 926 (by decide +kernel) (by decide +kernel)
theorem mw_882 : (Jvm.Cond.code ({ cls := "MosaicFloorModel", name := "faultNow", desc := "()I" } : Jvm.MethodName) prog_9_method_59_code (5 : Nat) (Option.some Jvm.ClassFile.FieldType.int)) ∈ mm_gw := mm_gwI 927 (by decide +kernel) (by decide +kernel)
theorem iw_0 : ∀ w ∈ u_ws RX0 TX0 2, w ∈ mm_gw := by decide +kernel
theorem df_0 : ∀ j, j < 2 → defaultValue (tyX0 j) = vp_V [.null, .int 0] j := fun j hj => by rcases (show j = 0 ∨ j = 1 by omega) with rfl | rfl <;> rfl
theorem iw_1 : ∀ w ∈ u_ws RX1 TX1 6, w ∈ mm_gw := by decide +kernel
theorem df_1 : ∀ j, j < 6 → defaultValue (tyX1 j) = vp_V [.null, .null, .int 0, .int 0, .int 0, .int 0] j := fun j hj => by rcases (show j = 0 ∨ j = 1 ∨ j = 2 ∨ j = 3 ∨ j = 4 ∨ j = 5 by omega) with rfl | rfl | rfl | rfl | rfl | rfl <;> rfl
theorem iw_2 : ∀ w ∈ u_ws RX2 TX2 4, w ∈ mm_gw := by decide +kernel
theorem df_2 : ∀ j, j < 4 → defaultValue (tyX2 j) = vp_V [.null, .null, .null, .int 0] j := fun j hj => by rcases (show j = 0 ∨ j = 1 ∨ j = 2 ∨ j = 3 by omega) with rfl | rfl | rfl | rfl <;> rfl
theorem iw_3 : ∀ w ∈ u_ws RX3 TX3 9, w ∈ mm_gw := by decide +kernel
theorem df_3 : ∀ j, j < 9 → defaultValue (tyX3 j) = vp_V [.null, .null, .int 0, .int 0, .int 0, .int 0, .int 0, .int 0, .int 0] j := fun j hj => by rcases (show j = 0 ∨ j = 1 ∨ j = 2 ∨ j = 3 ∨ j = 4 ∨ j = 5 ∨ j = 6 ∨ j = 7 ∨ j = 8 by omega) with rfl | rfl | rfl | rfl | rfl | rfl | rfl | rfl | rfl <;> rfl
theorem iw_4 : ∀ w ∈ u_ws RX4 TX4 6, w ∈ mm_gw := by decide +kernel
theorem df_4 : ∀ j, j < 6 → defaultValue (tyX4 j) = vp_V [.null, .int 0, .int 0, .int 0, .int 0, .int 0] j := fun j hj => by rcases (show j = 0 ∨ j = 1 ∨ j = 2 ∨ j = 3 ∨ j = 4 ∨ j = 5 by omega) with rfl | rfl | rfl | rfl | rfl | rfl <;> rfl
theorem iw_5 : ∀ w ∈ u_ws RX5 TX5 2, w ∈ mm_gw := by decide +kernel
theorem df_5 : ∀ j, j < 2 → defaultValue (tyX5 j) = vp_V [.null, .int 0] j := fun j hj => by rcases (show j = 0 ∨ j = 1 by omega) with rfl | rfl <;> rfl
theorem iw_6 : ∀ w ∈ u_ws RX6 TX6 4, w ∈ mm_gw := by decide +kernel
theorem df_6 : ∀ j, j < 4 → defaultValue (tyX6 j) = vp_V [.null, .null, .null, .null] j := fun j hj => by rcases (show j = 0 ∨ j = 1 ∨ j = 2 ∨ j = 3 by omega) with rfl | rfl | rfl | rfl <;> rfl
theorem iw_7 : ∀ w ∈ u_ws RX7 TX7 8, w ∈ mm_gw := by decide +kernel
theorem df_7 : ∀ j, j < 8 → defaultValue (tyX7 j) = vp_V [.null, .null, .null, .int 0, .null, .int 0, .null, .int 0] j := fun j hj => by rcases (show j = 0 ∨ j = 1 ∨ j = 2 ∨ j = 3 ∨ j = 4 ∨ j = 5 ∨ j = 6 ∨ j = 7 by omega) with rfl | rfl | rfl | rfl | rfl | rfl | rfl | rfl <;> rfl
theorem mm_u1e {α0 β : Type} {f : α0 → β} {a0 : α0} {r : β} (h : mm_u1 f a0 = r) : f a0 = r := h
theorem mm_u2e {α0 α1 β : Type} {f : α0 → α1 → β} {a0 : α0} {a1 : α1} {r : β} (h : mm_u2 f (a0, a1) = r) : f a0 a1 = r := h
theorem mm_u3e {α0 α1 α2 β : Type} {f : α0 → α1 → α2 → β} {a0 : α0} {a1 : α1} {a2 : α2} {r : β} (h : mm_u3 f (a0, a1, a2) = r) : f a0 a1 a2 = r := h
theorem mm_u4e {α0 α1 α2 α3 β : Type} {f : α0 → α1 → α2 → α3 → β} {a0 : α0} {a1 : α1} {a2 : α2} {a3 : α3} {r : β} (h : mm_u4 f (a0, a1, a2, a3) = r) : f a0 a1 a2 a3 = r := h
theorem mm_u5e {α0 α1 α2 α3 α4 β : Type} {f : α0 → α1 → α2 → α3 → α4 → β} {a0 : α0} {a1 : α1} {a2 : α2} {a3 : α3} {a4 : α4} {r : β} (h : mm_u5 f (a0, a1, a2, a3, a4) = r) : f a0 a1 a2 a3 a4 = r := h
theorem mm_u6e {α0 α1 α2 α3 α4 α5 β : Type} {f : α0 → α1 → α2 → α3 → α4 → α5 → β} {a0 : α0} {a1 : α1} {a2 : α2} {a3 : α3} {a4 : α4} {a5 : α5} {r : β} (h : mm_u6 f (a0, a1, a2, a3, a4, a5) = r) : f a0 a1 a2 a3 a4 a5 = r := h
theorem mm_ht0 {g : mm_G} {s : State} (hK : mm_K g s) : ∀ cA, s.vm.findClass ("[" ++ (FieldType.int).toString) = some cA → cA = g.2 0 := fun cA h => by
  have h2 : s.vm.findClass ("[" ++ (FieldType.int).toString) = some (g.2 0) := (hK.1.2 0 _ rfl).2
  exact Option.some.inj (h.symm.trans h2)
theorem mm_ht1 {g : mm_G} {s : State} (hK : mm_K g s) : ∀ cA, s.vm.findClass ("[" ++ (FieldType.char).toString) = some cA → cA = g.2 1 := fun cA h => by
  have h2 : s.vm.findClass ("[" ++ (FieldType.char).toString) = some (g.2 1) := (hK.1.2 1 _ rfl).2
  exact Option.some.inj (h.symm.trans h2)
theorem mm_ht2 {g : mm_G} {s : State} (hK : mm_K g s) : ∀ cA, s.vm.findClass ("[" ++ (FieldType.object RX4).toString) = some cA → cA = g.2 2 := fun cA h => by
  obtain ⟨kA, comp, h1, h2, h3, h4⟩ := (hK.1.2 2 _ rfl).2
  exact Option.some.inj (h.symm.trans h4)
theorem mm_ht3 {g : mm_G} {s : State} (hK : mm_K g s) : ∀ cA, s.vm.findClass ("[" ++ (FieldType.object RX2).toString) = some cA → cA = g.2 3 := fun cA h => by
  obtain ⟨kA, comp, h1, h2, h3, h4⟩ := (hK.1.2 3 _ rfl).2
  exact Option.some.inj (h.symm.trans h4)
theorem ps_X1_29 : mm_PS RX1 29 1 4 false .int := ⟨RX1, TX1, 6, tyX1, rfl, by decide, iw_1, mw_45, tyX1_ok, nmX1, rfl, by decide +kernel, fun h => by cases h⟩
theorem ps_X1_32 : mm_PS RX1 32 1 5 false .int := ⟨RX1, TX1, 6, tyX1, rfl, by decide, iw_1, mw_48, tyX1_ok, nmX1, rfl, by decide +kernel, fun h => by cases h⟩
theorem fs_X1_9 : mm_FS RX1 9 1 0 := ⟨RX1, TX1, 6, rfl, by decide, iw_1, mw_39⟩
theorem ss_X1_35 : mm_SS RX1 35 yJ7_fill_53178 cJ7_fill_53178 4 (Option.none : Option Jvm.ClassFile.FieldType) 2 := ⟨mw_36, mw_37, mw_4, mw_38, by decide +kernel⟩
theorem oc_i : Cond.code objectInit ⟨#[0xb1]⟩ 1 none ∈ mm_gw := mm_gwI 64 (by decide +kernel) (by decide +kernel)
theorem ps_X1_9 : mm_PS RX1 9 1 0 true (.array .int) := ⟨RX1, TX1, 6, tyX1, rfl, by decide, iw_1, mw_39, tyX1_ok, nmX1, rfl, by decide +kernel, fun _ => rfl⟩
theorem ps_X1_15 : mm_PS RX1 15 1 1 true (.array .int) := ⟨RX1, TX1, 6, tyX1, rfl, by decide, iw_1, mw_40, tyX1_ok, nmX1, rfl, by decide +kernel, fun _ => rfl⟩
theorem ps_X1_18 : mm_PS RX1 18 1 2 false .int := ⟨RX1, TX1, 6, tyX1, rfl, by decide, iw_1, mw_41, tyX1_ok, nmX1, rfl, by decide +kernel, fun h => by cases h⟩
theorem ps_X1_22 : mm_PS RX1 22 1 3 false .int := ⟨RX1, TX1, 6, tyX1, rfl, by decide, iw_1, mw_43, tyX1_ok, nmX1, rfl, by decide +kernel, fun h => by cases h⟩
theorem vs_X1_25 : mm_VS RX1 25 1 yX1_begin cX1_begin 3 (Option.none : Option Jvm.ClassFile.FieldType) 2 := ⟨⟨TX1, 6, rfl⟩, mw_32, mw_33, List.mem_of_getElem? (i := 79) (by decide +kernel), by decide +kernel, mw_3, mw_35, by decide +kernel⟩
theorem ps_X4_9 : mm_PS RX4 9 4 0 true (.array .int) := ⟨RX4, TX4, 6, tyX4, rfl, by decide, iw_4, mw_78, tyX4_ok, nmX4, rfl, by decide +kernel, fun _ => rfl⟩
theorem ps_X3_11 : mm_PS RX3 11 3 0 true (.array (.object "MosaicFloor$Strip")) := ⟨RX3, TX3, 9, tyX3, rfl, by decide, iw_3, mw_104, tyX3_ok, nmX3, rfl, by decide +kernel, fun _ => rfl⟩
theorem ps_X3_17 : mm_PS RX3 17 3 1 true (.array .int) := ⟨RX3, TX3, 9, tyX3, rfl, by decide, iw_3, mw_105, tyX3_ok, nmX3, rfl, by decide +kernel, fun _ => rfl⟩
theorem ps_X3_21 : mm_PS RX3 21 3 3 false .int := ⟨RX3, TX3, 9, tyX3, rfl, by decide, iw_3, mw_108, tyX3_ok, nmX3, rfl, by decide +kernel, fun h => by cases h⟩
theorem ps_X3_25 : mm_PS RX3 25 3 4 false .int := ⟨RX3, TX3, 9, tyX3, rfl, by decide, iw_3, mw_110, tyX3_ok, nmX3, rfl, by decide +kernel, fun h => by cases h⟩
theorem fs_X3_11 : mm_FS RX3 11 3 0 := ⟨RX3, TX3, 9, rfl, by decide, iw_3, mw_104⟩
theorem in_X3_28 : mm_IN RX3 28 yX4_init RX6 cX4_init 1 0 := ⟨mw_75, rfl, mw_6, mw_76, by decide +kernel⟩
theorem is_X2_11 : mm_IS RX2 11 yX1_init cX1_init 1 0 := ⟨mw_28, mw_29, rfl, mw_3, mw_30, by decide +kernel⟩
theorem ps_X2_12 : mm_PS RX2 12 2 0 true (.object "MosaicFloor$Plan") := ⟨RX2, TX2, 4, tyX2, rfl, by decide, iw_2, mw_140, tyX2_ok, nmX2, rfl, by decide +kernel, fun _ => rfl⟩
theorem is_X2_20 : mm_IS RX2 20 yX3_init cX3_init 2 0 := ⟨mw_67, mw_68, rfl, mw_5, mw_69, by decide +kernel⟩
theorem ps_X2_21 : mm_PS RX2 21 2 1 true (.object "MosaicFloor$Stock") := ⟨RX2, TX2, 4, tyX2, rfl, by decide, iw_2, mw_142, tyX2_ok, nmX2, rfl, by decide +kernel, fun _ => rfl⟩
theorem ps_X2_25 : mm_PS RX2 25 2 2 true (.array .int) := ⟨RX2, TX2, 4, tyX2, rfl, by decide, iw_2, mw_144, tyX2_ok, nmX2, rfl, by decide +kernel, fun _ => rfl⟩
theorem fs_X2_25 : mm_FS RX2 25 2 2 := ⟨RX2, TX2, 4, rfl, by decide, iw_2, mw_144⟩
theorem ss_X2_29 : mm_SS RX2 29 yJ7_fill_53178 cJ7_fill_53178 4 (Option.none : Option Jvm.ClassFile.FieldType) 2 := ⟨mw_139, mw_37, mw_4, mw_38, by decide +kernel⟩
theorem ps_X0_11 : mm_PS RX0 11 0 0 true (.array (.object "MosaicFloor$State")) := ⟨RX0, TX0, 2, tyX0, rfl, by decide, iw_0, mw_165, tyX0_ok, nmX0, rfl, by decide +kernel, fun _ => rfl⟩
theorem fs_X0_11 : mm_FS RX0 11 0 0 := ⟨RX0, TX0, 2, rfl, by decide, iw_0, mw_165⟩
theorem is_X0_17 : mm_IS RX0 17 yX2_init cX2_init 1 0 := ⟨mw_164, mw_23, rfl, mw_2, mw_24, by decide +kernel⟩
theorem ps_X5_9 : mm_PS RX5 9 5 0 true (.array .char) := ⟨RX5, TX5, 2, tyX5, rfl, by decide, iw_5, mw_178, tyX5_ok, nmX5, rfl, by decide +kernel, fun _ => rfl⟩
theorem is_X6_9 : mm_IS RX6 9 yX2_init cX2_init 1 0 := ⟨mw_22, mw_23, rfl, mw_2, mw_24, by decide +kernel⟩
theorem ps_X6_10 : mm_PS RX6 10 6 0 true (.object "MosaicFloor$State") := ⟨RX6, TX6, 4, tyX6, rfl, by decide, iw_6, mw_187, tyX6_ok, nmX6, rfl, by decide +kernel, fun _ => rfl⟩
theorem ps_X6_16 : mm_PS RX6 16 6 1 true (.object "MosaicFloor$State") := ⟨RX6, TX6, 4, tyX6, rfl, by decide, iw_6, mw_188, tyX6_ok, nmX6, rfl, by decide +kernel, fun _ => rfl⟩
theorem is_X6_21 : mm_IS RX6 21 yX0_init cX0_init 2 0 := ⟨mw_158, mw_159, rfl, mw_7, mw_160, by decide +kernel⟩
theorem ps_X6_22 : mm_PS RX6 22 6 2 true (.object "MosaicFloor$History") := ⟨RX6, TX6, 4, tyX6, rfl, by decide, iw_6, mw_189, tyX6_ok, nmX6, rfl, by decide +kernel, fun _ => rfl⟩
theorem in_X6_28 : mm_IN RX6 28 yX5_init RX6 cX5_init 1 0 := ⟨mw_175, rfl, mw_8, mw_176, by decide +kernel⟩
theorem ps_X6_29 : mm_PS RX6 29 6 3 true (.object "MosaicFloor$Text") := ⟨RX6, TX6, 4, tyX6, rfl, by decide, iw_6, mw_190, tyX6_ok, nmX6, rfl, by decide +kernel, fun _ => rfl⟩
theorem fs_X0_18 : mm_FS RX0 18 0 1 := ⟨RX0, TX0, 2, rfl, by decide, iw_0, mw_166⟩
theorem ps_X0_18 : mm_PS RX0 18 0 1 false .int := ⟨RX0, TX0, 2, tyX0, rfl, by decide, iw_0, mw_166, tyX0_ok, nmX0, rfl, by decide +kernel, fun h => by cases h⟩
theorem fs_X1_15 : mm_FS RX1 15 1 1 := ⟨RX1, TX1, 6, rfl, by decide, iw_1, mw_40⟩
theorem fs_X1_18 : mm_FS RX1 18 1 2 := ⟨RX1, TX1, 6, rfl, by decide, iw_1, mw_41⟩
theorem fs_X1_22 : mm_FS RX1 22 1 3 := ⟨RX1, TX1, 6, rfl, by decide, iw_1, mw_43⟩
theorem fs_X1_29 : mm_FS RX1 29 1 4 := ⟨RX1, TX1, 6, rfl, by decide, iw_1, mw_45⟩
theorem fs_X1_32 : mm_FS RX1 32 1 5 := ⟨RX1, TX1, 6, rfl, by decide, iw_1, mw_48⟩
theorem fs_X4_9 : mm_FS RX4 9 4 0 := ⟨RX4, TX4, 6, rfl, by decide, iw_4, mw_78⟩
theorem fs_X4_25 : mm_FS RX4 25 4 1 := ⟨RX4, TX4, 6, rfl, by decide, iw_4, mw_79⟩
theorem ps_X4_25 : mm_PS RX4 25 4 1 false .int := ⟨RX4, TX4, 6, tyX4, rfl, by decide, iw_4, mw_79, tyX4_ok, nmX4, rfl, by decide +kernel, fun h => by cases h⟩
theorem fs_X4_15 : mm_FS RX4 15 4 2 := ⟨RX4, TX4, 6, rfl, by decide, iw_4, mw_81⟩
theorem ps_X4_15 : mm_PS RX4 15 4 2 false .int := ⟨RX4, TX4, 6, tyX4, rfl, by decide, iw_4, mw_81, tyX4_ok, nmX4, rfl, by decide +kernel, fun h => by cases h⟩
theorem fs_X4_19 : mm_FS RX4 19 4 3 := ⟨RX4, TX4, 6, rfl, by decide, iw_4, mw_84⟩
theorem ps_X4_19 : mm_PS RX4 19 4 3 false .int := ⟨RX4, TX4, 6, tyX4, rfl, by decide, iw_4, mw_84, tyX4_ok, nmX4, rfl, by decide +kernel, fun h => by cases h⟩
theorem fs_X4_22 : mm_FS RX4 22 4 4 := ⟨RX4, TX4, 6, rfl, by decide, iw_4, mw_87⟩
theorem ps_X4_22 : mm_PS RX4 22 4 4 false .int := ⟨RX4, TX4, 6, tyX4, rfl, by decide, iw_4, mw_87, tyX4_ok, nmX4, rfl, by decide +kernel, fun h => by cases h⟩
theorem fs_X4_28 : mm_FS RX4 28 4 5 := ⟨RX4, TX4, 6, rfl, by decide, iw_4, mw_89⟩
theorem ps_X4_28 : mm_PS RX4 28 4 5 false .int := ⟨RX4, TX4, 6, tyX4, rfl, by decide, iw_4, mw_89, tyX4_ok, nmX4, rfl, by decide +kernel, fun h => by cases h⟩
theorem vs_X3_29 : mm_VS RX3 29 4 yX4_copyFrom cX4_copyFrom 2 (Option.none : Option Jvm.ClassFile.FieldType) 1 := ⟨⟨TX4, 6, rfl⟩, mw_234, mw_235, List.mem_of_getElem? (i := 281) (by decide +kernel), by decide +kernel, mw_6, mw_237, by decide +kernel⟩
theorem fs_X3_17 : mm_FS RX3 17 3 1 := ⟨RX3, TX3, 9, rfl, by decide, iw_3, mw_105⟩
theorem fs_X3_39 : mm_FS RX3 39 3 2 := ⟨RX3, TX3, 9, rfl, by decide, iw_3, mw_106⟩
theorem ps_X3_39 : mm_PS RX3 39 3 2 false .int := ⟨RX3, TX3, 9, tyX3, rfl, by decide, iw_3, mw_106, tyX3_ok, nmX3, rfl, by decide +kernel, fun h => by cases h⟩
theorem fs_X3_21 : mm_FS RX3 21 3 3 := ⟨RX3, TX3, 9, rfl, by decide, iw_3, mw_108⟩
theorem fs_X3_25 : mm_FS RX3 25 3 4 := ⟨RX3, TX3, 9, rfl, by decide, iw_3, mw_110⟩
theorem fs_X3_42 : mm_FS RX3 42 3 5 := ⟨RX3, TX3, 9, rfl, by decide, iw_3, mw_112⟩
theorem ps_X3_42 : mm_PS RX3 42 3 5 false .int := ⟨RX3, TX3, 9, tyX3, rfl, by decide, iw_3, mw_112, tyX3_ok, nmX3, rfl, by decide +kernel, fun h => by cases h⟩
theorem fs_X3_45 : mm_FS RX3 45 3 6 := ⟨RX3, TX3, 9, rfl, by decide, iw_3, mw_114⟩
theorem ps_X3_45 : mm_PS RX3 45 3 6 false .int := ⟨RX3, TX3, 9, tyX3, rfl, by decide, iw_3, mw_114, tyX3_ok, nmX3, rfl, by decide +kernel, fun h => by cases h⟩
theorem fs_X3_48 : mm_FS RX3 48 3 7 := ⟨RX3, TX3, 9, rfl, by decide, iw_3, mw_116⟩
theorem ps_X3_48 : mm_PS RX3 48 3 7 false .int := ⟨RX3, TX3, 9, tyX3, rfl, by decide, iw_3, mw_116, tyX3_ok, nmX3, rfl, by decide +kernel, fun h => by cases h⟩
theorem fs_X3_51 : mm_FS RX3 51 3 8 := ⟨RX3, TX3, 9, rfl, by decide, iw_3, mw_118⟩
theorem ps_X3_51 : mm_PS RX3 51 3 8 false .int := ⟨RX3, TX3, 9, tyX3, rfl, by decide, iw_3, mw_118, tyX3_ok, nmX3, rfl, by decide +kernel, fun h => by cases h⟩
theorem fs_X2_12 : mm_FS RX2 12 2 0 := ⟨RX2, TX2, 4, rfl, by decide, iw_2, mw_140⟩
theorem vs_X2_35 : mm_VS RX2 35 1 yX1_copyFrom cX1_copyFrom 2 (Option.none : Option Jvm.ClassFile.FieldType) 1 := ⟨⟨TX1, 6, rfl⟩, mw_223, mw_224, List.mem_of_getElem? (i := 270) (by decide +kernel), by decide +kernel, mw_3, mw_226, by decide +kernel⟩
theorem fs_X2_21 : mm_FS RX2 21 2 1 := ⟨RX2, TX2, 4, rfl, by decide, iw_2, mw_142⟩
theorem vs_X2_39 : mm_VS RX2 39 3 yX3_copyFrom cX3_copyFrom 3 (Option.none : Option Jvm.ClassFile.FieldType) 1 := ⟨⟨TX3, 9, rfl⟩, mw_230, mw_231, List.mem_of_getElem? (i := 277) (by decide +kernel), by decide +kernel, mw_5, mw_233, by decide +kernel⟩
theorem fs_X2_48 : mm_FS RX2 48 2 3 := ⟨RX2, TX2, 4, rfl, by decide, iw_2, mw_145⟩
theorem ps_X2_48 : mm_PS RX2 48 2 3 false .int := ⟨RX2, TX2, 4, tyX2, rfl, by decide, iw_2, mw_145, tyX2_ok, nmX2, rfl, by decide +kernel, fun h => by cases h⟩
theorem vs_X0_25 : mm_VS RX0 25 2 yX2_copyFrom cX2_copyFrom 2 (Option.none : Option Jvm.ClassFile.FieldType) 1 := ⟨⟨TX2, 4, rfl⟩, mw_219, mw_220, List.mem_of_getElem? (i := 266) (by decide +kernel), by decide +kernel, mw_2, mw_222, by decide +kernel⟩
theorem vs_X0_22 : mm_VS RX0 22 0 yX0_dropOldest cX0_dropOldest 3 (Option.none : Option Jvm.ClassFile.FieldType) 0 := ⟨⟨TX0, 2, rfl⟩, mw_215, mw_217, List.mem_of_getElem? (i := 0) (by decide +kernel), by decide +kernel, mw_7, mw_218, by decide +kernel⟩
theorem ss_X6_33 : mm_SS RX6 33 yX6_isWithin cX6_isWithin 3 (Option.some Jvm.ClassFile.FieldType.boolean) 3 := ⟨mw_204, mw_205, mw_1, mw_206, by decide +kernel⟩
theorem fs_X6_10 : mm_FS RX6 10 6 0 := ⟨RX6, TX6, 4, rfl, by decide, iw_6, mw_187⟩
theorem vs_X6_37 : mm_VS RX6 37 2 yX2_laidCells cX2_laidCells 6 (Option.some Jvm.ClassFile.FieldType.int) 0 := ⟨⟨TX2, 4, rfl⟩, mw_207, mw_208, List.mem_of_getElem? (i := 254) (by decide +kernel), by decide +kernel, mw_2, mw_210, by decide +kernel⟩
theorem fs_X6_22 : mm_FS RX6 22 6 2 := ⟨RX6, TX6, 4, rfl, by decide, iw_6, mw_189⟩
theorem vs_X6_41 : mm_VS RX6 41 0 yX0_keep cX0_keep 2 (Option.none : Option Jvm.ClassFile.FieldType) 1 := ⟨⟨TX0, 2, rfl⟩, mw_211, mw_212, List.mem_of_getElem? (i := 258) (by decide +kernel), by decide +kernel, mw_7, mw_214, by decide +kernel⟩
theorem fs_X6_45 : mm_FS RX6 45 2 0 := ⟨RX2, TX2, 4, rfl, by decide, iw_2, mw_141⟩
theorem vs_X6_49 : mm_VS RX6 49 1 yX1_begin cX1_begin 3 (Option.none : Option Jvm.ClassFile.FieldType) 2 := ⟨⟨TX1, 6, rfl⟩, mw_241, mw_33, List.mem_of_getElem? (i := 79) (by decide +kernel), by decide +kernel, mw_3, mw_35, by decide +kernel⟩
theorem vs_X3_73 : mm_VS RX3 73 3 yX3_tesseraeAtHand cX3_tesseraeAtHand 6 (Option.some Jvm.ClassFile.FieldType.int) 0 := ⟨⟨TX3, 9, rfl⟩, mw_254, mw_255, List.mem_of_getElem? (i := 301) (by decide +kernel), by decide +kernel, mw_5, mw_257, by decide +kernel⟩
theorem ss_X3_76 : mm_SS RX3 76 yJ7_fill_53178 cJ7_fill_53178 4 (Option.none : Option Jvm.ClassFile.FieldType) 2 := ⟨mw_258, mw_37, mw_4, mw_38, by decide +kernel⟩
theorem fs_X6_125 : mm_FS RX6 125 2 1 := ⟨RX2, TX2, 4, rfl, by decide, iw_2, mw_143⟩
theorem fs_X6_162 : mm_FS RX6 162 3 3 := ⟨RX3, TX3, 9, rfl, by decide, iw_3, mw_109⟩
theorem vs_X6_217 : mm_VS RX6 217 3 yX3_throwAway cX3_throwAway 1 (Option.none : Option Jvm.ClassFile.FieldType) 0 := ⟨⟨TX3, 9, rfl⟩, mw_250, mw_251, List.mem_of_getElem? (i := 297) (by decide +kernel), by decide +kernel, mw_5, mw_253, by decide +kernel⟩
theorem ps_X6_162 : mm_PS RX6 162 3 3 false .int := ⟨RX3, TX3, 9, tyX3, rfl, by decide, iw_3, mw_109, tyX3_ok, nmX3, rfl, by decide +kernel, fun h => by cases h⟩
theorem fs_X6_172 : mm_FS RX6 172 3 4 := ⟨RX3, TX3, 9, rfl, by decide, iw_3, mw_111⟩
theorem ps_X6_172 : mm_PS RX6 172 3 4 false .int := ⟨RX3, TX3, 9, tyX3, rfl, by decide, iw_3, mw_111, tyX3_ok, nmX3, rfl, by decide +kernel, fun h => by cases h⟩
theorem vs_X6_55 : mm_VS RX6 55 6 yX6_changeSize cX6_changeSize 3 (Option.some Jvm.ClassFile.FieldType.int) 1 := ⟨⟨TX6, 4, rfl⟩, mw_246, mw_248, List.mem_of_getElem? (i := 1) (by decide +kernel), by decide +kernel, mw_1, mw_249, by decide +kernel⟩
theorem vs_X6_59 : mm_VS RX6 59 6 yX6_changeLoss cX6_changeLoss 3 (Option.some Jvm.ClassFile.FieldType.int) 1 := ⟨⟨TX6, 4, rfl⟩, mw_259, mw_261, List.mem_of_getElem? (i := 2) (by decide +kernel), by decide +kernel, mw_1, mw_262, by decide +kernel⟩
theorem fs_X5_15 : mm_FS RX5 15 5 1 := ⟨RX5, TX5, 2, rfl, by decide, iw_5, mw_179⟩
theorem fs_X5_9 : mm_FS RX5 9 5 0 := ⟨RX5, TX5, 2, rfl, by decide, iw_5, mw_178⟩
theorem ss_X5_19 : mm_SS RX5 19 yX5_isDigit cX5_isDigit 1 (Option.some Jvm.ClassFile.FieldType.boolean) 1 := ⟨mw_271, mw_272, mw_8, mw_273, by decide +kernel⟩
theorem mc_min : Cond.code Lib.Math.min.name Lib.Math.min.code 2 (some .int) ∈ mm_gw := mm_gwI 329 (by decide +kernel) (by decide +kernel)
theorem vs_X1_47 : mm_VS RX1 47 5 yX5_readShades cX5_readShades 5 (Option.some Jvm.ClassFile.FieldType.int) 1 := ⟨⟨TX5, 2, rfl⟩, mw_278, mw_279, List.mem_of_getElem? (i := 325) (by decide +kernel), by decide +kernel, mw_8, mw_281, by decide +kernel⟩
theorem fs_X6_29 : mm_FS RX6 29 6 3 := ⟨RX6, TX6, 4, rfl, by decide, iw_6, mw_190⟩
theorem vs_X6_62 : mm_VS RX6 62 5 yX5_firstFaultOrNone cX5_firstFaultOrNone 5 (Option.some Jvm.ClassFile.FieldType.int) 0 := ⟨⟨TX5, 2, rfl⟩, mw_267, mw_268, List.mem_of_getElem? (i := 314) (by decide +kernel), by decide +kernel, mw_8, mw_270, by decide +kernel⟩
theorem vs_X6_65 : mm_VS RX6 65 1 yX1_takePattern cX1_takePattern 2 (Option.some Jvm.ClassFile.FieldType.int) 1 := ⟨⟨TX1, 6, rfl⟩, mw_274, mw_275, List.mem_of_getElem? (i := 321) (by decide +kernel), by decide +kernel, mw_3, mw_277, by decide +kernel⟩
theorem fs_X6_69 : mm_FS RX6 69 1 3 := ⟨RX1, TX1, 6, rfl, by decide, iw_1, mw_44⟩
theorem ps_X6_69 : mm_PS RX6 69 1 3 false .int := ⟨RX1, TX1, 6, tyX1, rfl, by decide, iw_1, mw_44, tyX1_ok, nmX1, rfl, by decide +kernel, fun h => by cases h⟩
theorem vs_X2_52 : mm_VS RX2 52 1 yX1_hasCell cX1_hasCell 3 (Option.some Jvm.ClassFile.FieldType.boolean) 2 := ⟨⟨TX1, 6, rfl⟩, mw_312, mw_294, List.mem_of_getElem? (i := 340) (by decide +kernel), by decide +kernel, mw_3, mw_296, by decide +kernel⟩
theorem vs_X2_56 : mm_VS RX2 56 2 yX2_laidOrNone cX2_laidOrNone 3 (Option.some Jvm.ClassFile.FieldType.int) 2 := ⟨⟨TX2, 4, rfl⟩, mw_308, mw_309, List.mem_of_getElem? (i := 355) (by decide +kernel), by decide +kernel, mw_2, mw_311, by decide +kernel⟩
theorem vs_X1_53 : mm_VS RX1 53 1 yX1_halfOfBorder cX1_halfOfBorder 1 (Option.some Jvm.ClassFile.FieldType.int) 0 := ⟨⟨TX1, 6, rfl⟩, mw_323, mw_325, List.mem_of_getElem? (i := 3) (by decide +kernel), by decide +kernel, mw_3, mw_326, by decide +kernel⟩
theorem vs_X1_83 : mm_VS RX1 83 1 yX1_patternShade cX1_patternShade 3 (Option.some Jvm.ClassFile.FieldType.int) 1 := ⟨⟨TX1, 6, rfl⟩, mw_332, mw_333, List.mem_of_getElem? (i := 379) (by decide +kernel), by decide +kernel, mw_3, mw_335, by decide +kernel⟩
theorem vs_X1_86 : mm_VS RX1 86 1 yX1_cellsOfWholePatterns cX1_cellsOfWholePatterns 2 (Option.some Jvm.ClassFile.FieldType.int) 1 := ⟨⟨TX1, 6, rfl⟩, mw_336, mw_338, List.mem_of_getElem? (i := 5) (by decide +kernel), by decide +kernel, mw_3, mw_339, by decide +kernel⟩
theorem vs_X1_69 : mm_VS RX1 69 1 yX1_hasCell cX1_hasCell 3 (Option.some Jvm.ClassFile.FieldType.boolean) 2 := ⟨⟨TX1, 6, rfl⟩, mw_317, mw_294, List.mem_of_getElem? (i := 340) (by decide +kernel), by decide +kernel, mw_3, mw_296, by decide +kernel⟩
theorem vs_X1_73 : mm_VS RX1 73 1 yX1_isBorder cX1_isBorder 3 (Option.some Jvm.ClassFile.FieldType.boolean) 2 := ⟨⟨TX1, 6, rfl⟩, mw_318, mw_301, List.mem_of_getElem? (i := 347) (by decide +kernel), by decide +kernel, mw_3, mw_303, by decide +kernel⟩
theorem vs_X1_76 : mm_VS RX1 76 1 yX1_borderNumberAt cX1_borderNumberAt 3 (Option.some Jvm.ClassFile.FieldType.int) 2 := ⟨⟨TX1, 6, rfl⟩, mw_319, mw_320, List.mem_of_getElem? (i := 366) (by decide +kernel), by decide +kernel, mw_3, mw_322, by decide +kernel⟩
theorem vs_X1_79 : mm_VS RX1 79 1 yX1_wantedInBorder cX1_wantedInBorder 6 (Option.some Jvm.ClassFile.FieldType.int) 1 := ⟨⟨TX1, 6, rfl⟩, mw_327, mw_329, List.mem_of_getElem? (i := 4) (by decide +kernel), by decide +kernel, mw_3, mw_330, by decide +kernel⟩
theorem vs_X6_73 : mm_VS RX6 73 1 yX1_hasCell cX1_hasCell 3 (Option.some Jvm.ClassFile.FieldType.boolean) 2 := ⟨⟨TX1, 6, rfl⟩, mw_293, mw_294, List.mem_of_getElem? (i := 340) (by decide +kernel), by decide +kernel, mw_3, mw_296, by decide +kernel⟩
theorem ss_X6_77 : mm_SS RX6 77 yX6_isShade cX6_isShade 1 (Option.some Jvm.ClassFile.FieldType.boolean) 1 := ⟨mw_297, mw_298, mw_1, mw_299, by decide +kernel⟩
theorem vs_X6_81 : mm_VS RX6 81 1 yX1_isBorder cX1_isBorder 3 (Option.some Jvm.ClassFile.FieldType.boolean) 2 := ⟨⟨TX1, 6, rfl⟩, mw_300, mw_301, List.mem_of_getElem? (i := 347) (by decide +kernel), by decide +kernel, mw_3, mw_303, by decide +kernel⟩
theorem vs_X6_84 : mm_VS RX6 84 2 yX2_isLaid cX2_isLaid 3 (Option.some Jvm.ClassFile.FieldType.boolean) 2 := ⟨⟨TX2, 4, rfl⟩, mw_304, mw_305, List.mem_of_getElem? (i := 351) (by decide +kernel), by decide +kernel, mw_2, mw_307, by decide +kernel⟩
theorem vs_X6_87 : mm_VS RX6 87 1 yX1_wantedAt cX1_wantedAt 3 (Option.some Jvm.ClassFile.FieldType.int) 2 := ⟨⟨TX1, 6, rfl⟩, mw_313, mw_314, List.mem_of_getElem? (i := 360) (by decide +kernel), by decide +kernel, mw_3, mw_316, by decide +kernel⟩
theorem vs_X6_91 : mm_VS RX6 91 1 yX1_wantInField cX1_wantInField 4 (Option.none : Option Jvm.ClassFile.FieldType) 3 := ⟨⟨TX1, 6, rfl⟩, mw_340, mw_341, List.mem_of_getElem? (i := 387) (by decide +kernel), by decide +kernel, mw_3, mw_343, by decide +kernel⟩
theorem vs_X2_60 : mm_VS RX2 60 2 yX2_isLaid cX2_isLaid 3 (Option.some Jvm.ClassFile.FieldType.boolean) 2 := ⟨⟨TX2, 4, rfl⟩, mw_353, mw_305, List.mem_of_getElem? (i := 351) (by decide +kernel), by decide +kernel, mw_2, mw_307, by decide +kernel⟩
theorem vs_X2_63 : mm_VS RX2 63 1 yX1_wantedAt cX1_wantedAt 3 (Option.some Jvm.ClassFile.FieldType.int) 2 := ⟨⟨TX1, 6, rfl⟩, mw_354, mw_314, List.mem_of_getElem? (i := 360) (by decide +kernel), by decide +kernel, mw_3, mw_316, by decide +kernel⟩
theorem mc_abs : Cond.code Lib.Math.abs.name Lib.Math.abs.code 1 (some .int) ∈ mm_gw := mm_gwI 402 (by decide +kernel) (by decide +kernel)
theorem vs_X6_95 : mm_VS RX6 95 2 yX2_laidOrNone cX2_laidOrNone 3 (Option.some Jvm.ClassFile.FieldType.int) 2 := ⟨⟨TX2, 4, rfl⟩, mw_348, mw_309, List.mem_of_getElem? (i := 355) (by decide +kernel), by decide +kernel, mw_2, mw_311, by decide +kernel⟩
theorem vs_X6_98 : mm_VS RX6 98 2 yX2_differenceAt cX2_differenceAt 3 (Option.some Jvm.ClassFile.FieldType.int) 2 := ⟨⟨TX2, 4, rfl⟩, mw_349, mw_350, List.mem_of_getElem? (i := 396) (by decide +kernel), by decide +kernel, mw_2, mw_352, by decide +kernel⟩
theorem vs_X6_101 : mm_VS RX6 101 1 yX1_borderNumberAt cX1_borderNumberAt 3 (Option.some Jvm.ClassFile.FieldType.int) 2 := ⟨⟨TX1, 6, rfl⟩, mw_358, mw_320, List.mem_of_getElem? (i := 366) (by decide +kernel), by decide +kernel, mw_3, mw_322, by decide +kernel⟩
theorem vs_X1_89 : mm_VS RX1 89 1 yX1_patternHasOneShade cX1_patternHasOneShade 2 (Option.some Jvm.ClassFile.FieldType.boolean) 0 := ⟨⟨TX1, 6, rfl⟩, mw_375, mw_377, List.mem_of_getElem? (i := 7) (by decide +kernel), by decide +kernel, mw_3, mw_378, by decide +kernel⟩
theorem vs_X1_66 : mm_VS RX1 66 1 yX1_borderCells cX1_borderCells 1 (Option.some Jvm.ClassFile.FieldType.int) 0 := ⟨⟨TX1, 6, rfl⟩, mw_379, mw_368, List.mem_of_getElem? (i := 414) (by decide +kernel), by decide +kernel, mw_3, mw_370, by decide +kernel⟩
theorem fs_X6_220 : mm_FS RX6 220 1 4 := ⟨RX1, TX1, 6, rfl, by decide, iw_1, mw_47⟩
theorem fs_X6_223 : mm_FS RX6 223 1 5 := ⟨RX1, TX1, 6, rfl, by decide, iw_1, mw_50⟩
theorem vs_X6_226 : mm_VS RX6 226 1 yX1_borderCells cX1_borderCells 1 (Option.some Jvm.ClassFile.FieldType.int) 0 := ⟨⟨TX1, 6, rfl⟩, mw_367, mw_368, List.mem_of_getElem? (i := 414) (by decide +kernel), by decide +kernel, mw_3, mw_370, by decide +kernel⟩
theorem fs_X6_113 : mm_FS RX6 113 1 2 := ⟨RX1, TX1, 6, rfl, by decide, iw_1, mw_42⟩
theorem vs_X6_229 : mm_VS RX6 229 1 yX1_borderMeets cX1_borderMeets 4 (Option.some Jvm.ClassFile.FieldType.boolean) 0 := ⟨⟨TX1, 6, rfl⟩, mw_371, mw_372, List.mem_of_getElem? (i := 418) (by decide +kernel), by decide +kernel, mw_3, mw_374, by decide +kernel⟩
theorem fs_X2_72 : mm_FS RX2 72 1 5 := ⟨RX1, TX1, 6, rfl, by decide, iw_1, mw_49⟩
theorem fs_X2_75 : mm_FS RX2 75 1 4 := ⟨RX1, TX1, 6, rfl, by decide, iw_1, mw_46⟩
theorem vs_X2_78 : mm_VS RX2 78 2 yX2_differenceAt cX2_differenceAt 3 (Option.some Jvm.ClassFile.FieldType.int) 2 := ⟨⟨TX2, 4, rfl⟩, mw_388, mw_350, List.mem_of_getElem? (i := 396) (by decide +kernel), by decide +kernel, mw_2, mw_352, by decide +kernel⟩
theorem mc_max : Cond.code Lib.Math.max.name Lib.Math.max.code 2 (some .int) ∈ mm_gw := mm_gwI 440 (by decide +kernel) (by decide +kernel)
theorem vs_X6_210 : mm_VS RX6 210 2 yX2_sumOfDifferences cX2_sumOfDifferences 4 (Option.some Jvm.ClassFile.FieldType.int) 0 := ⟨⟨TX2, 4, rfl⟩, mw_384, mw_385, List.mem_of_getElem? (i := 431) (by decide +kernel), by decide +kernel, mw_2, mw_387, by decide +kernel⟩
theorem vs_X6_233 : mm_VS RX6 233 2 yX2_greatestDifference cX2_greatestDifference 4 (Option.some Jvm.ClassFile.FieldType.int) 0 := ⟨⟨TX2, 4, rfl⟩, mw_389, mw_390, List.mem_of_getElem? (i := 436) (by decide +kernel), by decide +kernel, mw_2, mw_392, by decide +kernel⟩
theorem fs_X6_129 : mm_FS RX6 129 3 2 := ⟨RX3, TX3, 9, rfl, by decide, iw_3, mw_107⟩
theorem vs_X6_236 : mm_VS RX6 236 3 yX3_tesseraeAtHand cX3_tesseraeAtHand 6 (Option.some Jvm.ClassFile.FieldType.int) 0 := ⟨⟨TX3, 9, rfl⟩, mw_396, mw_255, List.mem_of_getElem? (i := 301) (by decide +kernel), by decide +kernel, mw_5, mw_257, by decide +kernel⟩
theorem fs_X6_239 : mm_FS RX6 239 3 5 := ⟨RX3, TX3, 9, rfl, by decide, iw_3, mw_113⟩
theorem fs_X6_242 : mm_FS RX6 242 2 3 := ⟨RX2, TX2, 4, rfl, by decide, iw_2, mw_146⟩
theorem vs_X6_119 : mm_VS RX6 119 0 yX0_states cX0_states 1 (Option.some Jvm.ClassFile.FieldType.int) 0 := ⟨⟨TX0, 2, rfl⟩, mw_397, mw_398, List.mem_of_getElem? (i := 444) (by decide +kernel), by decide +kernel, mw_7, mw_400, by decide +kernel⟩
theorem fs_X6_213 : mm_FS RX6 213 5 1 := ⟨RX5, TX5, 2, rfl, by decide, iw_5, mw_180⟩
theorem fs_X3_58 : mm_FS RX3 58 4 2 := ⟨RX4, TX4, 6, rfl, by decide, iw_4, mw_82⟩
theorem vs_X3_61 : mm_VS RX3 61 4 yX4_left cX4_left 1 (Option.some Jvm.ClassFile.FieldType.int) 0 := ⟨⟨TX4, 6, rfl⟩, mw_413, mw_414, List.mem_of_getElem? (i := 460) (by decide +kernel), by decide +kernel, mw_6, mw_416, by decide +kernel⟩
theorem vs_X6_245 : mm_VS RX6 245 3 yX3_lengthOfStrips cX3_lengthOfStrips 6 (Option.some Jvm.ClassFile.FieldType.int) 0 := ⟨⟨TX3, 9, rfl⟩, mw_405, mw_406, List.mem_of_getElem? (i := 452) (by decide +kernel), by decide +kernel, mw_5, mw_408, by decide +kernel⟩
theorem vs_X6_248 : mm_VS RX6 248 3 yX3_leftOfStrips cX3_leftOfStrips 6 (Option.some Jvm.ClassFile.FieldType.int) 0 := ⟨⟨TX3, 9, rfl⟩, mw_409, mw_410, List.mem_of_getElem? (i := 456) (by decide +kernel), by decide +kernel, mw_5, mw_412, by decide +kernel⟩
theorem fs_X6_251 : mm_FS RX6 251 3 6 := ⟨RX3, TX3, 9, rfl, by decide, iw_3, mw_115⟩
theorem fs_X6_254 : mm_FS RX6 254 3 7 := ⟨RX3, TX3, 9, rfl, by decide, iw_3, mw_117⟩
theorem fs_X6_257 : mm_FS RX6 257 3 8 := ⟨RX3, TX3, 9, rfl, by decide, iw_3, mw_119⟩
theorem vs_X6_110 : mm_VS RX6 110 6 yX6_account cX6_account 2 (Option.some Jvm.ClassFile.FieldType.int) 1 := ⟨⟨TX6, 4, rfl⟩, mw_401, mw_403, List.mem_of_getElem? (i := 9) (by decide +kernel), by decide +kernel, mw_1, mw_404, by decide +kernel⟩
theorem vs_X6_107 : mm_VS RX6 107 6 yX6_countOfWork cX6_countOfWork 2 (Option.some Jvm.ClassFile.FieldType.int) 1 := ⟨⟨TX6, 4, rfl⟩, mw_380, mw_382, List.mem_of_getElem? (i := 8) (by decide +kernel), by decide +kernel, mw_1, mw_383, by decide +kernel⟩
theorem vs_X6_104 : mm_VS RX6 104 6 yX6_countOfPlan cX6_countOfPlan 2 (Option.some Jvm.ClassFile.FieldType.int) 1 := ⟨⟨TX6, 4, rfl⟩, mw_363, mw_365, List.mem_of_getElem? (i := 6) (by decide +kernel), by decide +kernel, mw_1, mw_366, by decide +kernel⟩
theorem vs_X6_116 : mm_VS RX6 116 1 yX1_patternShade cX1_patternShade 3 (Option.some Jvm.ClassFile.FieldType.int) 1 := ⟨⟨TX1, 6, rfl⟩, mw_421, mw_333, List.mem_of_getElem? (i := 379) (by decide +kernel), by decide +kernel, mw_3, mw_335, by decide +kernel⟩
theorem vs_X6_122 : mm_VS RX6 122 0 yX0_restore cX0_restore 2 (Option.none : Option Jvm.ClassFile.FieldType) 1 := ⟨⟨TX0, 2, rfl⟩, mw_426, mw_427, List.mem_of_getElem? (i := 473) (by decide +kernel), by decide +kernel, mw_7, mw_429, by decide +kernel⟩
theorem vs_X3_54 : mm_VS RX3 54 4 yX4_begin cX4_begin 3 (Option.none : Option Jvm.ClassFile.FieldType) 2 := ⟨⟨TX4, 6, rfl⟩, mw_438, mw_439, List.mem_of_getElem? (i := 485) (by decide +kernel), by decide +kernel, mw_6, mw_441, by decide +kernel⟩
theorem vs_X6_134 : mm_VS RX6 134 3 yX3_addStrip cX3_addStrip 4 (Option.some Jvm.ClassFile.FieldType.int) 2 := ⟨⟨TX3, 9, rfl⟩, mw_434, mw_435, List.mem_of_getElem? (i := 481) (by decide +kernel), by decide +kernel, mw_5, mw_437, by decide +kernel⟩
theorem vs_X6_137 : mm_VS RX6 137 3 yX3_stripOrNull cX3_stripOrNull 2 (Option.some (Jvm.ClassFile.FieldType.object "MosaicFloor$Strip")) 1 := ⟨⟨TX3, 9, rfl⟩, mw_446, mw_447, List.mem_of_getElem? (i := 493) (by decide +kernel), by decide +kernel, mw_5, mw_449, by decide +kernel⟩
theorem fs_X6_141 : mm_FS RX6 141 4 4 := ⟨RX4, TX4, 6, rfl, by decide, iw_4, mw_88⟩
theorem fs_X6_146 : mm_FS RX6 146 4 2 := ⟨RX4, TX4, 6, rfl, by decide, iw_4, mw_83⟩
theorem vs_X6_149 : mm_VS RX6 149 4 yX4_hasFlawIn cX4_hasFlawIn 4 (Option.some Jvm.ClassFile.FieldType.boolean) 2 := ⟨⟨TX4, 6, rfl⟩, mw_450, mw_451, List.mem_of_getElem? (i := 497) (by decide +kernel), by decide +kernel, mw_6, mw_453, by decide +kernel⟩
theorem fs_X6_152 : mm_FS RX6 152 4 1 := ⟨RX4, TX4, 6, rfl, by decide, iw_4, mw_80⟩
theorem vs_X6_155 : mm_VS RX6 155 4 yX4_addFlaw cX4_addFlaw 2 (Option.none : Option Jvm.ClassFile.FieldType) 1 := ⟨⟨TX4, 6, rfl⟩, mw_454, mw_455, List.mem_of_getElem? (i := 501) (by decide +kernel), by decide +kernel, mw_6, mw_457, by decide +kernel⟩
theorem vs_X4_41 : mm_VS RX4 41 4 yX4_hasFlawIn cX4_hasFlawIn 4 (Option.some Jvm.ClassFile.FieldType.boolean) 2 := ⟨⟨TX4, 6, rfl⟩, mw_471, mw_451, List.mem_of_getElem? (i := 497) (by decide +kernel), by decide +kernel, mw_6, mw_453, by decide +kernel⟩
theorem sn_X3_65 : mm_SN RX3 65 yX6_isShade RX6 cX6_isShade 1 (Option.some Jvm.ClassFile.FieldType.boolean) 1 := ⟨mw_298, mw_1, mw_299, by decide +kernel⟩
theorem vs_X3_116 : mm_VS RX3 116 4 yX4_cutOff cX4_cutOff 4 (Option.some Jvm.ClassFile.FieldType.boolean) 2 := ⟨⟨TX4, 6, rfl⟩, mw_467, mw_468, List.mem_of_getElem? (i := 514) (by decide +kernel), by decide +kernel, mw_6, mw_470, by decide +kernel⟩
theorem vs_X3_123 : mm_VS RX3 123 3 yX3_addBroken cX3_addBroken 1 (Option.none : Option Jvm.ClassFile.FieldType) 0 := ⟨⟨TX3, 9, rfl⟩, mw_478, mw_479, List.mem_of_getElem? (i := 525) (by decide +kernel), by decide +kernel, mw_5, mw_481, by decide +kernel⟩
theorem fs_X3_82 : mm_FS RX3 82 4 3 := ⟨RX4, TX4, 6, rfl, by decide, iw_4, mw_85⟩
theorem vs_X3_119 : mm_VS RX3 119 3 yX3_putAtHand cX3_putAtHand 2 (Option.none : Option Jvm.ClassFile.FieldType) 1 := ⟨⟨TX3, 9, rfl⟩, mw_473, mw_474, List.mem_of_getElem? (i := 520) (by decide +kernel), by decide +kernel, mw_5, mw_476, by decide +kernel⟩
theorem vs_X6_159 : mm_VS RX6 159 4 yX4_left cX4_left 1 (Option.some Jvm.ClassFile.FieldType.int) 0 := ⟨⟨TX4, 6, rfl⟩, mw_462, mw_414, List.mem_of_getElem? (i := 460) (by decide +kernel), by decide +kernel, mw_6, mw_416, by decide +kernel⟩
theorem vs_X6_165 : mm_VS RX6 165 3 yX3_cutFrom cX3_cutFrom 4 (Option.some Jvm.ClassFile.FieldType.boolean) 1 := ⟨⟨TX3, 9, rfl⟩, mw_463, mw_464, List.mem_of_getElem? (i := 510) (by decide +kernel), by decide +kernel, mw_5, mw_466, by decide +kernel⟩
theorem vs_X4_37 : mm_VS RX4 37 4 yX4_tesseraeAhead cX4_tesseraeAhead 5 (Option.some Jvm.ClassFile.FieldType.int) 2 := ⟨⟨TX4, 6, rfl⟩, mw_494, mw_487, List.mem_of_getElem? (i := 533) (by decide +kernel), by decide +kernel, mw_6, mw_489, by decide +kernel⟩
theorem fs_X6_169 : mm_FS RX6 169 4 3 := ⟨RX4, TX4, 6, rfl, by decide, iw_4, mw_86⟩
theorem vs_X6_175 : mm_VS RX6 175 4 yX4_tesseraeAhead cX4_tesseraeAhead 5 (Option.some Jvm.ClassFile.FieldType.int) 2 := ⟨⟨TX4, 6, rfl⟩, mw_486, mw_487, List.mem_of_getElem? (i := 533) (by decide +kernel), by decide +kernel, mw_6, mw_489, by decide +kernel⟩
theorem vs_X6_178 : mm_VS RX6 178 4 yX4_goodTesseraeAhead cX4_goodTesseraeAhead 7 (Option.some Jvm.ClassFile.FieldType.int) 2 := ⟨⟨TX4, 6, rfl⟩, mw_490, mw_491, List.mem_of_getElem? (i := 537) (by decide +kernel), by decide +kernel, mw_6, mw_493, by decide +kernel⟩
theorem fs_X6_181 : mm_FS RX6 181 4 5 := ⟨RX4, TX4, 6, rfl, by decide, iw_4, mw_90⟩
theorem ss_X3_89 : mm_SS RX3 89 yX3_nearer cX3_nearer 5 (Option.some Jvm.ClassFile.FieldType.int) 3 := ⟨mw_507, mw_508, mw_5, mw_509, by decide +kernel⟩
theorem vs_X3_93 : mm_VS RX3 93 4 yX4_givesGood cX4_givesGood 6 (Option.some Jvm.ClassFile.FieldType.boolean) 2 := ⟨⟨TX4, 6, rfl⟩, mw_512, mw_513, List.mem_of_getElem? (i := 559) (by decide +kernel), by decide +kernel, mw_6, mw_515, by decide +kernel⟩
theorem vs_X2_84 : mm_VS RX2 84 3 yX3_nearestShadeOrNone cX3_nearestShadeOrNone 7 (Option.some Jvm.ClassFile.FieldType.int) 1 := ⟨⟨TX3, 9, rfl⟩, mw_503, mw_504, List.mem_of_getElem? (i := 550) (by decide +kernel), by decide +kernel, mw_5, mw_506, by decide +kernel⟩
theorem vs_X3_69 : mm_VS RX3 69 3 yX3_atHandOf cX3_atHandOf 2 (Option.some Jvm.ClassFile.FieldType.int) 1 := ⟨⟨TX3, 9, rfl⟩, mw_524, mw_526, List.mem_of_getElem? (i := 10) (by decide +kernel), by decide +kernel, mw_5, mw_527, by decide +kernel⟩
theorem vs_X3_105 : mm_VS RX3 105 3 yX3_firstStripGivingOrNull cX3_firstStripGivingOrNull 6 (Option.some (Jvm.ClassFile.FieldType.object "MosaicFloor$Strip")) 1 := ⟨⟨TX3, 9, rfl⟩, mw_528, mw_530, List.mem_of_getElem? (i := 11) (by decide +kernel), by decide +kernel, mw_5, mw_531, by decide +kernel⟩
theorem vs_X3_109 : mm_VS RX3 109 4 yX4_tesseraeAhead cX4_tesseraeAhead 5 (Option.some Jvm.ClassFile.FieldType.int) 2 := ⟨⟨TX4, 6, rfl⟩, mw_532, mw_487, List.mem_of_getElem? (i := 533) (by decide +kernel), by decide +kernel, mw_6, mw_489, by decide +kernel⟩
theorem vs_X3_112 : mm_VS RX3 112 3 yX3_cutFrom cX3_cutFrom 4 (Option.some Jvm.ClassFile.FieldType.boolean) 1 := ⟨⟨TX3, 9, rfl⟩, mw_533, mw_464, List.mem_of_getElem? (i := 510) (by decide +kernel), by decide +kernel, mw_5, mw_466, by decide +kernel⟩
theorem vs_X2_87 : mm_VS RX2 87 3 yX3_bringToHand cX3_bringToHand 5 (Option.none : Option Jvm.ClassFile.FieldType) 1 := ⟨⟨TX3, 9, rfl⟩, mw_520, mw_521, List.mem_of_getElem? (i := 567) (by decide +kernel), by decide +kernel, mw_5, mw_523, by decide +kernel⟩
theorem vs_X2_91 : mm_VS RX2 91 3 yX3_takeFromHand cX3_takeFromHand 2 (Option.none : Option Jvm.ClassFile.FieldType) 1 := ⟨⟨TX3, 9, rfl⟩, mw_534, mw_535, List.mem_of_getElem? (i := 581) (by decide +kernel), by decide +kernel, mw_5, mw_537, by decide +kernel⟩
theorem vs_X2_94 : mm_VS RX2 94 2 yX2_putAt cX2_putAt 4 (Option.none : Option Jvm.ClassFile.FieldType) 3 := ⟨⟨TX2, 4, rfl⟩, mw_538, mw_540, List.mem_of_getElem? (i := 12) (by decide +kernel), by decide +kernel, mw_2, mw_541, by decide +kernel⟩
theorem vs_X6_184 : mm_VS RX6 184 2 yX2_shadeForOrNone cX2_shadeForOrNone 3 (Option.some Jvm.ClassFile.FieldType.int) 2 := ⟨⟨TX2, 4, rfl⟩, mw_499, mw_500, List.mem_of_getElem? (i := 546) (by decide +kernel), by decide +kernel, mw_2, mw_502, by decide +kernel⟩
theorem vs_X6_187 : mm_VS RX6 187 2 yX2_layCellIfPossible cX2_layCellIfPossible 4 (Option.none : Option Jvm.ClassFile.FieldType) 2 := ⟨⟨TX2, 4, rfl⟩, mw_516, mw_517, List.mem_of_getElem? (i := 563) (by decide +kernel), by decide +kernel, mw_2, mw_519, by decide +kernel⟩
theorem vs_X2_98 : mm_VS RX2 98 2 yX2_laidCells cX2_laidCells 6 (Option.some Jvm.ClassFile.FieldType.int) 0 := ⟨⟨TX2, 4, rfl⟩, mw_550, mw_208, List.mem_of_getElem? (i := 254) (by decide +kernel), by decide +kernel, mw_2, mw_210, by decide +kernel⟩
theorem vs_X2_102 : mm_VS RX2 102 1 yX1_borderCells cX1_borderCells 1 (Option.some Jvm.ClassFile.FieldType.int) 0 := ⟨⟨TX1, 6, rfl⟩, mw_551, mw_368, List.mem_of_getElem? (i := 414) (by decide +kernel), by decide +kernel, mw_3, mw_370, by decide +kernel⟩
theorem vs_X2_105 : mm_VS RX2 105 1 yX1_columnOf cX1_columnOf 2 (Option.some Jvm.ClassFile.FieldType.int) 1 := ⟨⟨TX1, 6, rfl⟩, mw_552, mw_553, List.mem_of_getElem? (i := 599) (by decide +kernel), by decide +kernel, mw_3, mw_555, by decide +kernel⟩
theorem vs_X2_108 : mm_VS RX2 108 1 yX1_rowOf cX1_rowOf 2 (Option.some Jvm.ClassFile.FieldType.int) 1 := ⟨⟨TX1, 6, rfl⟩, mw_557, mw_558, List.mem_of_getElem? (i := 604) (by decide +kernel), by decide +kernel, mw_3, mw_560, by decide +kernel⟩
theorem vs_X2_111 : mm_VS RX2 111 2 yX2_layCellIfPossible cX2_layCellIfPossible 4 (Option.none : Option Jvm.ClassFile.FieldType) 2 := ⟨⟨TX2, 4, rfl⟩, mw_561, mw_517, List.mem_of_getElem? (i := 563) (by decide +kernel), by decide +kernel, mw_2, mw_519, by decide +kernel⟩
theorem vs_X6_190 : mm_VS RX6 190 2 yX2_layEmptyCells cX2_layEmptyCells 4 (Option.some Jvm.ClassFile.FieldType.int) 0 := ⟨⟨TX2, 4, rfl⟩, mw_546, mw_547, List.mem_of_getElem? (i := 593) (by decide +kernel), by decide +kernel, mw_2, mw_549, by decide +kernel⟩
theorem vs_X2_118 : mm_VS RX2 118 3 yX3_putAtHand cX3_putAtHand 2 (Option.none : Option Jvm.ClassFile.FieldType) 1 := ⟨⟨TX3, 9, rfl⟩, mw_571, mw_474, List.mem_of_getElem? (i := 520) (by decide +kernel), by decide +kernel, mw_5, mw_476, by decide +kernel⟩
theorem vs_X2_115 : mm_VS RX2 115 3 yX3_addBroken cX3_addBroken 1 (Option.none : Option Jvm.ClassFile.FieldType) 0 := ⟨⟨TX3, 9, rfl⟩, mw_570, mw_479, List.mem_of_getElem? (i := 525) (by decide +kernel), by decide +kernel, mw_5, mw_481, by decide +kernel⟩
theorem vs_X6_193 : mm_VS RX6 193 2 yX2_liftToHand cX2_liftToHand 4 (Option.some Jvm.ClassFile.FieldType.boolean) 2 := ⟨⟨TX2, 4, rfl⟩, mw_566, mw_567, List.mem_of_getElem? (i := 613) (by decide +kernel), by decide +kernel, mw_2, mw_569, by decide +kernel⟩
theorem vs_X3_85 : mm_VS RX3 85 4 yX4_goodTesseraeAhead cX4_goodTesseraeAhead 7 (Option.some Jvm.ClassFile.FieldType.int) 2 := ⟨⟨TX4, 6, rfl⟩, mw_584, mw_491, List.mem_of_getElem? (i := 537) (by decide +kernel), by decide +kernel, mw_6, mw_493, by decide +kernel⟩
theorem vs_X6_196 : mm_VS RX6 196 3 yX3_readyOf cX3_readyOf 7 (Option.some Jvm.ClassFile.FieldType.int) 1 := ⟨⟨TX3, 9, rfl⟩, mw_580, mw_581, List.mem_of_getElem? (i := 627) (by decide +kernel), by decide +kernel, mw_5, mw_583, by decide +kernel⟩
theorem vs_X2_121 : mm_VS RX2 121 3 yX3_readyOf cX3_readyOf 7 (Option.some Jvm.ClassFile.FieldType.int) 1 := ⟨⟨TX3, 9, rfl⟩, mw_593, mw_581, List.mem_of_getElem? (i := 627) (by decide +kernel), by decide +kernel, mw_5, mw_583, by decide +kernel⟩
theorem vs_X6_199 : mm_VS RX6 199 2 yX2_lackOf cX2_lackOf 5 (Option.some Jvm.ClassFile.FieldType.int) 1 := ⟨⟨TX2, 4, rfl⟩, mw_589, mw_590, List.mem_of_getElem? (i := 636) (by decide +kernel), by decide +kernel, mw_2, mw_592, by decide +kernel⟩
theorem fs_X6_16 : mm_FS RX6 16 6 1 := ⟨RX6, TX6, 4, rfl, by decide, iw_6, mw_188⟩
theorem vs_X6_207 : mm_VS RX6 207 2 yX2_copyFrom cX2_copyFrom 2 (Option.none : Option Jvm.ClassFile.FieldType) 1 := ⟨⟨TX2, 4, rfl⟩, mw_603, mw_220, List.mem_of_getElem? (i := 266) (by decide +kernel), by decide +kernel, mw_2, mw_222, by decide +kernel⟩
theorem ps_X5_15 : mm_PS RX5 15 5 1 false .int := ⟨RX5, TX5, 2, tyX5, rfl, by decide, iw_5, mw_179, tyX5_ok, nmX5, rfl, by decide +kernel, fun h => by cases h⟩
theorem vs_X6_214 : mm_VS RX6 214 5 yX5_append cX5_append 2 (Option.none : Option Jvm.ClassFile.FieldType) 1 := ⟨⟨TX5, 2, rfl⟩, mw_608, mw_609, List.mem_of_getElem? (i := 655) (by decide +kernel), by decide +kernel, mw_8, mw_611, by decide +kernel⟩
theorem ps_X6_213 : mm_PS RX6 213 5 1 false .int := ⟨RX5, TX5, 2, tyX5, rfl, by decide, iw_5, mw_180, tyX5_ok, nmX5, rfl, by decide +kernel, fun h => by cases h⟩
theorem fs_X7_7 : mm_FS RX7 7 7 0 := ⟨RX7, TX7, 8, rfl, by decide, iw_7, mw_630⟩
theorem ps_X7_7 : mm_PS RX7 7 7 0 true (.array .int) := ⟨RX7, TX7, 8, tyX7, rfl, by decide, iw_7, mw_630, tyX7_ok, nmX7, rfl, by decide +kernel, fun _ => rfl⟩
theorem ps_X7_13 : mm_PS RX7 13 7 1 true (.array .int) := ⟨RX7, TX7, 8, tyX7, rfl, by decide, iw_7, mw_631, tyX7_ok, nmX7, rfl, by decide +kernel, fun _ => rfl⟩
theorem ps_X7_16 : mm_PS RX7 16 7 2 true (.array .int) := ⟨RX7, TX7, 8, tyX7, rfl, by decide, iw_7, mw_632, tyX7_ok, nmX7, rfl, by decide +kernel, fun _ => rfl⟩
theorem ps_X7_19 : mm_PS RX7 19 7 4 true (.array .int) := ⟨RX7, TX7, 8, tyX7, rfl, by decide, iw_7, mw_634, tyX7_ok, nmX7, rfl, by decide +kernel, fun _ => rfl⟩
theorem ps_X7_22 : mm_PS RX7 22 7 6 true (.array .int) := ⟨RX7, TX7, 8, tyX7, rfl, by decide, iw_7, mw_636, tyX7_ok, nmX7, rfl, by decide +kernel, fun _ => rfl⟩
theorem vs_X7_25 : mm_VS RX7 25 7 yX7_beginWith cX7_beginWith 4 (Option.none : Option Jvm.ClassFile.FieldType) 2 := ⟨⟨TX7, 8, rfl⟩, mw_626, mw_628, List.mem_of_getElem? (i := 13) (by decide +kernel), by decide +kernel, mw_9, mw_629, by decide +kernel⟩
theorem fs_X7_29 : mm_FS RX7 29 7 3 := ⟨RX7, TX7, 8, rfl, by decide, iw_7, mw_633⟩
theorem fs_X7_16 : mm_FS RX7 16 7 2 := ⟨RX7, TX7, 8, rfl, by decide, iw_7, mw_632⟩
theorem ss_X7_33 : mm_SS RX7 33 yX7_bring cX7_bring 5 (Option.none : Option Jvm.ClassFile.FieldType) 4 := ⟨mw_674, mw_675, mw_9, mw_676, by decide +kernel⟩
theorem ps_X7_29 : mm_PS RX7 29 7 3 false .int := ⟨RX7, TX7, 8, tyX7, rfl, by decide, iw_7, mw_633, tyX7_ok, nmX7, rfl, by decide +kernel, fun h => by cases h⟩
theorem ss_X7_37 : mm_SS RX7 37 yX7_in cX7_in 3 (Option.some Jvm.ClassFile.FieldType.boolean) 3 := ⟨mw_659, mw_660, mw_9, mw_661, by decide +kernel⟩
theorem vs_X7_41 : mm_VS RX7 41 7 yX7_cells cX7_cells 1 (Option.some Jvm.ClassFile.FieldType.int) 0 := ⟨⟨TX7, 8, rfl⟩, mw_666, mw_668, List.mem_of_getElem? (i := 15) (by decide +kernel), by decide +kernel, mw_9, mw_669, by decide +kernel⟩
theorem ss_X7_45 : mm_SS RX7 45 yX7_lesser cX7_lesser 2 (Option.some Jvm.ClassFile.FieldType.int) 2 := ⟨mw_717, mw_718, mw_9, mw_719, by decide +kernel⟩
theorem vs_X7_49 : mm_VS RX7 49 7 yX7_borderOf cX7_borderOf 5 (Option.some Jvm.ClassFile.FieldType.int) 2 := ⟨⟨TX7, 8, rfl⟩, mw_697, mw_699, List.mem_of_getElem? (i := 19) (by decide +kernel), by decide +kernel, mw_9, mw_700, by decide +kernel⟩
theorem vs_X7_52 : mm_VS RX7 52 7 yX7_borderWants cX7_borderWants 6 (Option.some Jvm.ClassFile.FieldType.int) 1 := ⟨⟨TX7, 8, rfl⟩, mw_713, mw_715, List.mem_of_getElem? (i := 22) (by decide +kernel), by decide +kernel, mw_9, mw_716, by decide +kernel⟩
theorem vs_X7_56 : mm_VS RX7 56 7 yX7_around cX7_around 1 (Option.some Jvm.ClassFile.FieldType.int) 0 := ⟨⟨TX7, 8, rfl⟩, mw_731, mw_733, List.mem_of_getElem? (i := 24) (by decide +kernel), by decide +kernel, mw_9, mw_734, by decide +kernel⟩
theorem vs_X7_59 : mm_VS RX7 59 7 yX7_laidCells cX7_laidCells 3 (Option.some Jvm.ClassFile.FieldType.int) 0 := ⟨⟨TX7, 8, rfl⟩, mw_662, mw_664, List.mem_of_getElem? (i := 14) (by decide +kernel), by decide +kernel, mw_9, mw_665, by decide +kernel⟩
theorem vs_X7_62 : mm_VS RX7 62 7 yX7_keep cX7_keep 2 (Option.none : Option Jvm.ClassFile.FieldType) 0 := ⟨⟨TX7, 8, rfl⟩, mw_670, mw_672, List.mem_of_getElem? (i := 16) (by decide +kernel), by decide +kernel, mw_9, mw_673, by decide +kernel⟩
theorem vs_X7_65 : mm_VS RX7 65 7 yX7_atHand cX7_atHand 3 (Option.some Jvm.ClassFile.FieldType.int) 0 := ⟨⟨TX7, 8, rfl⟩, mw_681, mw_683, List.mem_of_getElem? (i := 17) (by decide +kernel), by decide +kernel, mw_9, mw_684, by decide +kernel⟩
theorem vs_X7_68 : mm_VS RX7 68 7 yX7_isCell cX7_isCell 3 (Option.some Jvm.ClassFile.FieldType.boolean) 2 := ⟨⟨TX7, 8, rfl⟩, mw_693, mw_695, List.mem_of_getElem? (i := 18) (by decide +kernel), by decide +kernel, mw_9, mw_696, by decide +kernel⟩
theorem vs_X7_72 : mm_VS RX7 72 7 yX7_wanted cX7_wanted 3 (Option.some Jvm.ClassFile.FieldType.int) 1 := ⟨⟨TX7, 8, rfl⟩, mw_709, mw_711, List.mem_of_getElem? (i := 21) (by decide +kernel), by decide +kernel, mw_9, mw_712, by decide +kernel⟩
theorem ss_X7_75 : mm_SS RX7 75 yX7_size cX7_size 1 (Option.some Jvm.ClassFile.FieldType.int) 1 := ⟨mw_724, mw_725, mw_9, mw_726, by decide +kernel⟩
theorem vs_X7_78 : mm_VS RX7 78 7 yX7_difference cX7_difference 2 (Option.some Jvm.ClassFile.FieldType.int) 1 := ⟨⟨TX7, 8, rfl⟩, mw_720, mw_722, List.mem_of_getElem? (i := 23) (by decide +kernel), by decide +kernel, mw_9, mw_723, by decide +kernel⟩
theorem vs_X7_81 : mm_VS RX7 81 7 yX7_cellOf cX7_cellOf 5 (Option.some Jvm.ClassFile.FieldType.int) 3 := ⟨⟨TX7, 8, rfl⟩, mw_705, mw_707, List.mem_of_getElem? (i := 20) (by decide +kernel), by decide +kernel, mw_9, mw_708, by decide +kernel⟩
theorem vs_X7_85 : mm_VS RX7 85 7 yX7_of cX7_of 3 (Option.some Jvm.ClassFile.FieldType.int) 2 := ⟨⟨TX7, 8, rfl⟩, mw_747, mw_749, List.mem_of_getElem? (i := 28) (by decide +kernel), by decide +kernel, mw_9, mw_750, by decide +kernel⟩
theorem vs_X7_88 : mm_VS RX7 88 7 yX7_left cX7_left 2 (Option.some Jvm.ClassFile.FieldType.int) 1 := ⟨⟨TX7, 8, rfl⟩, mw_751, mw_753, List.mem_of_getElem? (i := 29) (by decide +kernel), by decide +kernel, mw_9, mw_754, by decide +kernel⟩
theorem vs_X7_91 : mm_VS RX7 91 7 yX7_meets cX7_meets 4 (Option.some Jvm.ClassFile.FieldType.boolean) 0 := ⟨⟨TX7, 8, rfl⟩, mw_735, mw_737, List.mem_of_getElem? (i := 25) (by decide +kernel), by decide +kernel, mw_9, mw_738, by decide +kernel⟩
theorem vs_X7_95 : mm_VS RX7 95 7 yX7_differences cX7_differences 5 (Option.some Jvm.ClassFile.FieldType.int) 1 := ⟨⟨TX7, 8, rfl⟩, mw_739, mw_741, List.mem_of_getElem? (i := 26) (by decide +kernel), by decide +kernel, mw_9, mw_742, by decide +kernel⟩
theorem fs_X7_99 : mm_FS RX7 99 7 5 := ⟨RX7, TX7, 8, rfl, by decide, iw_7, mw_635⟩
theorem vs_X7_102 : mm_VS RX7 102 7 yX7_account cX7_account 5 (Option.some Jvm.ClassFile.FieldType.int) 1 := ⟨⟨TX7, 8, rfl⟩, mw_743, mw_745, List.mem_of_getElem? (i := 27) (by decide +kernel), by decide +kernel, mw_9, mw_746, by decide +kernel⟩
theorem vs_X7_105 : mm_VS RX7 105 7 yX7_put cX7_put 4 (Option.none : Option Jvm.ClassFile.FieldType) 3 := ⟨⟨TX7, 8, rfl⟩, mw_767, mw_769, List.mem_of_getElem? (i := 30) (by decide +kernel), by decide +kernel, mw_9, mw_770, by decide +kernel⟩
theorem vs_X7_109 : mm_VS RX7 109 7 yX7_isStrip cX7_isStrip 2 (Option.some Jvm.ClassFile.FieldType.boolean) 1 := ⟨⟨TX7, 8, rfl⟩, mw_775, mw_777, List.mem_of_getElem? (i := 31) (by decide +kernel), by decide +kernel, mw_9, mw_778, by decide +kernel⟩
theorem vs_X7_113 : mm_VS RX7 113 7 yX7_hasFlaw cX7_hasFlaw 6 (Option.some Jvm.ClassFile.FieldType.boolean) 3 := ⟨⟨TX7, 8, rfl⟩, mw_779, mw_781, List.mem_of_getElem? (i := 32) (by decide +kernel), by decide +kernel, mw_9, mw_782, by decide +kernel⟩
theorem vs_X7_116 : mm_VS RX7 116 7 yX7_canCut cX7_canCut 2 (Option.some Jvm.ClassFile.FieldType.boolean) 1 := ⟨⟨TX7, 8, rfl⟩, mw_787, mw_789, List.mem_of_getElem? (i := 33) (by decide +kernel), by decide +kernel, mw_9, mw_790, by decide +kernel⟩
theorem vs_X7_119 : mm_VS RX7 119 7 yX7_cuts cX7_cuts 5 (Option.some Jvm.ClassFile.FieldType.boolean) 1 := ⟨⟨TX7, 8, rfl⟩, mw_791, mw_793, List.mem_of_getElem? (i := 34) (by decide +kernel), by decide +kernel, mw_9, mw_794, by decide +kernel⟩
theorem vs_X7_122 : mm_VS RX7 122 7 yX7_still cX7_still 5 (Option.some Jvm.ClassFile.FieldType.int) 2 := ⟨⟨TX7, 8, rfl⟩, mw_803, mw_805, List.mem_of_getElem? (i := 36) (by decide +kernel), by decide +kernel, mw_9, mw_806, by decide +kernel⟩
theorem vs_X7_126 : mm_VS RX7 126 7 yX7_partOf cX7_partOf 3 (Option.some Jvm.ClassFile.FieldType.int) 2 := ⟨⟨TX7, 8, rfl⟩, mw_799, mw_801, List.mem_of_getElem? (i := 35) (by decide +kernel), by decide +kernel, mw_9, mw_802, by decide +kernel⟩
theorem vs_X7_129 : mm_VS RX7 129 7 yX7_source cX7_source 3 (Option.some Jvm.ClassFile.FieldType.int) 1 := ⟨⟨TX7, 8, rfl⟩, mw_815, mw_817, List.mem_of_getElem? (i := 38) (by decide +kernel), by decide +kernel, mw_9, mw_818, by decide +kernel⟩
theorem vs_X7_132 : mm_VS RX7 132 7 yX7_nearestTo cX7_nearestTo 5 (Option.some Jvm.ClassFile.FieldType.int) 1 := ⟨⟨TX7, 8, rfl⟩, mw_811, mw_813, List.mem_of_getElem? (i := 37) (by decide +kernel), by decide +kernel, mw_9, mw_814, by decide +kernel⟩
theorem vs_X7_135 : mm_VS RX7 135 7 yX7_lays cX7_lays 5 (Option.some Jvm.ClassFile.FieldType.int) 1 := ⟨⟨TX7, 8, rfl⟩, mw_819, mw_821, List.mem_of_getElem? (i := 39) (by decide +kernel), by decide +kernel, mw_9, mw_822, by decide +kernel⟩
theorem vs_X7_138 : mm_VS RX7 138 7 yX7_laysIfEmpty cX7_laysIfEmpty 2 (Option.some Jvm.ClassFile.FieldType.int) 1 := ⟨⟨TX7, 8, rfl⟩, mw_831, mw_833, List.mem_of_getElem? (i := 41) (by decide +kernel), by decide +kernel, mw_9, mw_834, by decide +kernel⟩
theorem vs_X7_141 : mm_VS RX7 141 7 yX7_laysAll cX7_laysAll 7 (Option.some Jvm.ClassFile.FieldType.int) 0 := ⟨⟨TX7, 8, rfl⟩, mw_827, mw_829, List.mem_of_getElem? (i := 40) (by decide +kernel), by decide +kernel, mw_9, mw_830, by decide +kernel⟩
theorem vs_X7_144 : mm_VS RX7 144 7 yX7_readyOf cX7_readyOf 4 (Option.some Jvm.ClassFile.FieldType.int) 1 := ⟨⟨TX7, 8, rfl⟩, mw_847, mw_849, List.mem_of_getElem? (i := 42) (by decide +kernel), by decide +kernel, mw_9, mw_850, by decide +kernel⟩
theorem vs_X7_147 : mm_VS RX7 147 7 yX7_lacksOf cX7_lacksOf 4 (Option.some Jvm.ClassFile.FieldType.int) 1 := ⟨⟨TX7, 8, rfl⟩, mw_855, mw_857, List.mem_of_getElem? (i := 43) (by decide +kernel), by decide +kernel, mw_9, mw_858, by decide +kernel⟩
theorem fs_X7_13 : mm_FS RX7 13 7 1 := ⟨RX7, TX7, 8, rfl, by decide, iw_7, mw_631⟩
theorem fs_X7_19 : mm_FS RX7 19 7 4 := ⟨RX7, TX7, 8, rfl, by decide, iw_7, mw_634⟩
theorem ps_X7_99 : mm_PS RX7 99 7 5 false .int := ⟨RX7, TX7, 8, tyX7, rfl, by decide, iw_7, mw_635, tyX7_ok, nmX7, rfl, by decide +kernel, fun h => by cases h⟩
theorem ps_X7_150 : mm_PS RX7 150 7 7 false .int := ⟨RX7, TX7, 8, tyX7, rfl, by decide, iw_7, mw_637, tyX7_ok, nmX7, rfl, by decide +kernel, fun h => by cases h⟩
theorem fs_X7_150 : mm_FS RX7 150 7 7 := ⟨RX7, TX7, 8, rfl, by decide, iw_7, mw_637⟩
theorem fs_X7_22 : mm_FS RX7 22 7 6 := ⟨RX7, TX7, 8, rfl, by decide, iw_7, mw_636⟩
theorem vs_X7_153 : mm_VS RX7 153 7 yX7_faultNow cX7_faultNow 5 (Option.some Jvm.ClassFile.FieldType.int) 0 := ⟨⟨TX7, 8, rfl⟩, mw_879, mw_881, List.mem_of_getElem? (i := 44) (by decide +kernel), by decide +kernel, mw_9, mw_882, by decide +kernel⟩
end
section
def ff_J7_fill_53178_l5 (x0 : Nat) (x1 : Int32) (x3 : Int32) (x2 : Int32) (M : mm_M) : Option ((Int32 × mm_M) ⊕ (Int32 × mm_M)) := if x3 ≤ x2 then (some (.inr (x2, M))) else (Option.bind (mm_sI 0 M x0 x2 x1) fun M2 => some (.inl ((x2 + (1 : Int32)), M2)))
def ff_J7_fill_53178 (M : mm_M) (x0 : Nat) (x1 : Int32) : Option mm_M := Option.bind (mm_ln M x0) fun v1 => Option.bind (mm_it (mm_u2 (ff_J7_fill_53178_l5 x0 x1 v1)) mm_fu ((0 : Int32), M)) fun e3 => mm_u2 (fun x2_4 M5 => some M5) e3
def rm_J7_fill_53178 : Room := { frames := 0, cells := 0, slots := 0, locals := 0 }
set_option maxHeartbeats 4000000 in
set_option maxRecDepth 100000 in
theorem jj_J7_fill_53178 (l : Launch) (g : mm_G) (A : Nat → Prop) (M : mm_M) (x0 : Nat) (x1 : Int32) (M2 : mm_M) (hf : ff_J7_fill_53178 M x0 x1 = some M2) : Met l yJ7_fill_53178 (mm_ws yJ7_fill_53178 cJ7_fill_53178 4 (Option.none : Option Jvm.ClassFile.FieldType)) rm_J7_fill_53178 (va_Pc [.ref x0, .int x1] (mm_B g A M)) (mm_Tv g A M2) 0 0 A := by
  refine mm_met (g := g) (lv := [(0, .ref x0), (1, .int x1)]) (fun U h => h.2) (by decide +kernel) (Nat.le_of_ble_eq_true rfl) rfl ?_
  intro p e s m args below meth c ls C hr hnm hB hl
  obtain ⟨hR, hK⟩ := hB
  have hx := C.1
  have hb := C.2.1
  suffices hmain : ∀ (H : Heap) (locs : List Loc), mm_R g A M H → va_S A s.heap H locs → W p l e rm_J7_fill_53178 s m args below meth c H locs 0 0 (MQ below (mm_Tv g A M2) args s 0 0 A) (F0 m 0 ls []) from hmain _ _ hR va_S.rf
  clear hR
  intro H locs hR hS
  have L5 : ∀ (x0 : Nat) (x1 : Int32) (x3 : Int32) (e1 : Int32 × mm_M) (hX : ∀ (x2 : Int32) (M : mm_M), e1 = (x2, M) → ∀ (H : Heap) (locs : List Loc) (ls : Array Slot), mm_R g A M H → va_S A s.heap H locs → lv_has ls 4 [] → W p l e rm_J7_fill_53178 s m args below meth c H locs 0 0 (MQ below (mm_Tv g A M2) args s 0 0 A) (F0 m 20 ls [])) (n : Nat) (x2 : Int32) (M : mm_M), mm_it (mm_u2 (ff_J7_fill_53178_l5 x0 x1 x3)) n (x2, M) = some e1 → ∀ (H : Heap) (locs : List Loc) (ls : Array Slot), mm_R g A M H → va_S A s.heap H locs → lv_has ls 4 [(0, .ref x0), (1, .int x1), (2, .int x2), (3, .int x3)] → W p l e rm_J7_fill_53178 s m args below meth c H locs 0 0 (MQ below (mm_Tv g A M2) args s 0 0 A) (F0 m 5 ls []) := by
    intro x0 x1 x3 e1 hX n x2 M hit
    refine mm_itW (Hd := fun st => ∀ (H : Heap) (locs : List Loc) (ls : Array Slot), mm_R g A st.2 H → va_S A s.heap H locs → lv_has ls 4 [(0, .ref x0), (1, .int x1), (2, .int st.1), (3, .int x3)] → W p l e rm_J7_fill_53178 s m args below meth c H locs 0 0 (MQ below (mm_Tv g A M2) args s 0 0 A) (F0 m 5 ls [])) (fun st y hf hin hout => ?_) n (x2, M) hit
    obtain ⟨x2, M⟩ := st
    have hf := mm_u2e hf
    intro H locs ls hR hS hl
    unfold ff_J7_fill_53178_l5 at hf
    refine lv_iload_n hx hb dJ7_fill_53178_5 rfl (lv_at hl 2 rfl) ?_
    refine lv_iload_n hx hb dJ7_fill_53178_6 rfl (lv_at hl 3 rfl) ?_
    refine lv_icmp_ge (tgt := 20) hx hb dJ7_fill_53178_7 (by decide) (fun hc => ?_) (fun hc => ?_)
    · have hf := mm_if1 hc hf
      exact hX _ _ (hout _ (Option.some.inj hf).symm).symm H locs ls hR hS (lv_sub hl [] rfl)
    · have hf := mm_if0 hc hf
      refine lv_aload_n hx hb dJ7_fill_53178_10 rfl (lv_at hl 0 rfl) ?_
      refine lv_iload_n hx hb dJ7_fill_53178_11 rfl (lv_at hl 2 rfl) ?_
      refine lv_iload_n hx hb dJ7_fill_53178_12 rfl (lv_at hl 1 rfl) ?_
      obtain ⟨M2, eM2, hf⟩ := mm_bd hf
      refine mm_iast C hR hS eM2 dJ7_fill_53178_13 (fun H locs hR hS => ?_)
      refine lv_iinc (v := (x2 + (1 : Int32))) (lv' := [(2, .int (x2 + (1 : Int32))), (0, .ref x0), (1, .int x1), (3, .int x3)]) hx hb dJ7_fill_53178_14 hl (k := 2) rfl rfl (by decide) rfl (fun ls hl => ?_)
      refine lv_goto (tgt := 5) hx hb dJ7_fill_53178_17 (by decide) ?_
      exact hin _ (Option.some.inj hf).symm H locs ls hR hS (lv_sub hl [1, 2, 0, 3] rfl)
  unfold ff_J7_fill_53178 at hf
  refine lv_iconst (v := 0) hx hb dJ7_fill_53178_0 (by decide) ?_
  refine lv_istore_n (lv' := [(2, .int (0 : Int32)), (0, .ref x0), (1, .int x1)]) hx hb dJ7_fill_53178_1 rfl hl (by decide) rfl (fun ls hl => ?_)
  refine lv_aload_n hx hb dJ7_fill_53178_2 rfl (lv_at hl 1 rfl) ?_
  obtain ⟨v1, ev1, hf⟩ := mm_bd hf
  refine mm_alen C hR ev1 dJ7_fill_53178_3 ?_
  refine lv_istore_n (lv' := [(3, .int v1), (2, .int (0 : Int32)), (0, .ref x0), (1, .int x1)]) hx hb dJ7_fill_53178_4 rfl hl (by decide) rfl (fun ls hl => ?_)
  obtain ⟨e3, he3, hf⟩ := mm_bd hf
  refine L5 x0 x1 v1 e3 (fun x2_4 M5 he => ?_) _ (0 : Int32) M he3 H locs ls hR hS (lv_sub hl [2, 3, 1, 0] rfl)
  subst he
  intro H locs ls hR hS hl
  have hf := mm_u2e hf
  exact mm_vre C hR hS hr (Option.some.inj hf) dJ7_fill_53178_20
end
section
def ff_X4_init (sz : Nat) (M : mm_M) (x0 : Nat) : Option mm_M := Option.bind (mm_nI 0 6 sz M) fun M1 => Option.bind (mm_pR 4 M1 x0 0 sz) fun M2 => some M2
def rm_X4_init : Room := { frames := 1, cells := 1, slots := 6, locals := 20 }
set_option maxHeartbeats 4000000 in
set_option maxRecDepth 100000 in
theorem jj_X4_init (l : Launch) (g : mm_G) (A : Nat → Prop) {sz : Nat} (hAn : ∀ q, sz ≤ q → A q) (M : mm_M) (x0 : Nat) (M2 : mm_M) (hf : ff_X4_init sz M x0 = some M2) : Met l yX4_init (mm_ws yX4_init cX4_init 1 (Option.none : Option Jvm.ClassFile.FieldType)) rm_X4_init (va_Pc [.ref x0] (fun U => U.heap.size = sz ∧ mm_B g A M U)) (mm_Tz g A M2 (sz + 1)) 1 6 A := by
  refine mm_met (g := g) (lv := [(0, .ref x0)]) (fun U h => h.2.2) (by decide +kernel) (Nat.le_of_ble_eq_true rfl) rfl ?_
  intro p e s m args below meth c ls C hr hnm hB hl
  obtain ⟨hs0, hR, hK⟩ := hB
  have hz : sz ≤ s.heap.size := Nat.le_of_eq hs0.symm
  have hx := C.1
  have hb := C.2.1
  suffices hmain : ∀ (H : Heap) (locs : List Loc), mm_R g A M H → va_S A s.heap H locs → sz ≤ H.size → W p l e rm_X4_init s m args below meth c H locs 0 0 (MQ below (mm_Tz g A M2 (sz + 1)) args s 1 6 A) (F0 m 0 ls []) from hmain _ _ hR va_S.rf hz
  clear hR hz
  intro H locs hR hS hz
  unfold ff_X4_init at hf
  refine lv_aload_n hx hb dX4_init_0 rfl (lv_at hl 0 rfl) ?_
  refine mm_obj C hl.1 mw_77 mw_18 oc_i (Nat.le_of_ble_eq_true rfl) (Nat.le_of_ble_eq_true rfl) dX4_init_1 ?_
  refine lv_aload_n hx hb dX4_init_4 rfl (lv_at hl 0 rfl) ?_
  refine lv_bipush (v := 6) hx hb dX4_init_5 (by decide) ?_
  obtain ⟨M1, eM1, hf⟩ := mm_bd hf
  refine mm_newA (ty := .int) (N' := 6) C hR hS hs0 hAn hz rfl rfl mw_64 (mm_ht0 C.2.2.2.2.2.1) rfl (by decide) (by decide) (Nat.le_of_ble_eq_true rfl) (Nat.le_of_ble_eq_true rfl) (Nat.le_of_ble_eq_true rfl) eM1 dX4_init_7 (fun H hz hR hS => ?_)
  obtain ⟨M2, eM2, hf⟩ := mm_bd hf
  refine mm_putRz C hR hS hnm ps_X4_9 (fun v => ⟨rfl, rfl⟩) eM2 dX4_init_9 hz (fun H locs hz hR hS => ?_)
  exact mm_vrz C hR hS hr (Option.some.inj hf) hs0 hz rfl dX4_init_12
def ff_X4_copyFrom (M : mm_M) (x0 : Nat) (x1 : Nat) : Option mm_M := Option.bind (mm_gR 4 M x1 0) fun v1 => Option.bind (mm_gR 4 M x0 0) fun v2 => Option.bind (mm_gR 4 M x0 0) fun v3 => Option.bind (mm_ln M v3) fun v4 => Option.bind (mm_cp M v1 (0 : Int32) v2 (0 : Int32) v4) fun M5 => Option.bind (mm_gI 4 M5 x1 1) fun v6 => Option.bind (mm_pI 4 M5 x0 1 v6) fun M7 => Option.bind (mm_gI 4 M7 x1 2) fun v8 => Option.bind (mm_pI 4 M7 x0 2 v8) fun M9 => Option.bind (mm_gI 4 M9 x1 3) fun v10 => Option.bind (mm_pI 4 M9 x0 3 v10) fun M11 => Option.bind (mm_gI 4 M11 x1 4) fun v12 => Option.bind (mm_pI 4 M11 x0 4 v12) fun M13 => Option.bind (mm_gI 4 M13 x1 5) fun v14 => Option.bind (mm_pI 4 M13 x0 5 v14) fun M15 => some M15
def rm_X4_copyFrom : Room := { frames := 1, cells := 0, slots := 0, locals := 26 }
set_option maxHeartbeats 4000000 in
set_option maxRecDepth 100000 in
theorem jj_X4_copyFrom (l : Launch) (g : mm_G) (A : Nat → Prop) (M : mm_M) (x0 : Nat) (x1 : Nat) (M2 : mm_M) (hf : ff_X4_copyFrom M x0 x1 = some M2) : Met l yX4_copyFrom (mm_ws yX4_copyFrom cX4_copyFrom 2 (Option.none : Option Jvm.ClassFile.FieldType)) rm_X4_copyFrom (va_Pc [.ref x0, .ref x1] (mm_B g A M)) (mm_Tv g A M2) 0 0 A := by
  refine mm_met (g := g) (lv := [(0, .ref x0), (1, .ref x1)]) (fun U h => h.2) (by decide +kernel) (Nat.le_of_ble_eq_true rfl) rfl ?_
  intro p e s m args below meth c ls C hr hnm hB hl
  obtain ⟨hR, hK⟩ := hB
  have hx := C.1
  have hb := C.2.1
  suffices hmain : ∀ (H : Heap) (locs : List Loc), mm_R g A M H → va_S A s.heap H locs → W p l e rm_X4_copyFrom s m args below meth c H locs 0 0 (MQ below (mm_Tv g A M2) args s 0 0 A) (F0 m 0 ls []) from hmain _ _ hR va_S.rf
  clear hR
  intro H locs hR hS
  unfold ff_X4_copyFrom at hf
  refine lv_aload_n hx hb dX4_copyFrom_0 rfl (lv_at hl 1 rfl) ?_
  obtain ⟨v1, ev1, hf⟩ := mm_bd hf
  refine mm_getR C hR fs_X4_9 ev1 dX4_copyFrom_1 ?_
  refine lv_iconst (v := 0) hx hb dX4_copyFrom_4 (by decide) ?_
  refine lv_aload_n hx hb dX4_copyFrom_5 rfl (lv_at hl 0 rfl) ?_
  obtain ⟨v2, ev2, hf⟩ := mm_bd hf
  refine mm_getR C hR fs_X4_9 ev2 dX4_copyFrom_6 ?_
  refine lv_iconst (v := 0) hx hb dX4_copyFrom_9 (by decide) ?_
  refine lv_aload_n hx hb dX4_copyFrom_10 rfl (lv_at hl 0 rfl) ?_
  obtain ⟨v3, ev3, hf⟩ := mm_bd hf
  refine mm_getR C hR fs_X4_9 ev3 dX4_copyFrom_11 ?_
  obtain ⟨v4, ev4, hf⟩ := mm_bd hf
  refine mm_alen C hR ev4 dX4_copyFrom_14 ?_
  obtain ⟨M5, eM5, hf⟩ := mm_bd hf
  refine mm_copy C hR hS hl.1 mw_238 mw_229 mw_228 mw_10 eM5 (Nat.le_of_ble_eq_true rfl) (Nat.le_of_ble_eq_true rfl) dX4_copyFrom_15 (fun H locs hR hS => ?_)
  refine lv_aload_n hx hb dX4_copyFrom_18 rfl (lv_at hl 0 rfl) ?_
  refine lv_aload_n hx hb dX4_copyFrom_19 rfl (lv_at hl 1 rfl) ?_
  obtain ⟨v6, ev6, hf⟩ := mm_bd hf
  refine mm_getI C hR fs_X4_25 ev6 dX4_copyFrom_20 ?_
  obtain ⟨M7, eM7, hf⟩ := mm_bd hf
  refine mm_putI C hR hS ps_X4_25 eM7 dX4_copyFrom_23 (fun H locs hR hS => ?_)
  refine lv_aload_n hx hb dX4_copyFrom_26 rfl (lv_at hl 0 rfl) ?_
  refine lv_aload_n hx hb dX4_copyFrom_27 rfl (lv_at hl 1 rfl) ?_
  obtain ⟨v8, ev8, hf⟩ := mm_bd hf
  refine mm_getI C hR fs_X4_15 ev8 dX4_copyFrom_28 ?_
  obtain ⟨M9, eM9, hf⟩ := mm_bd hf
  refine mm_putI C hR hS ps_X4_15 eM9 dX4_copyFrom_31 (fun H locs hR hS => ?_)
  refine lv_aload_n hx hb dX4_copyFrom_34 rfl (lv_at hl 0 rfl) ?_
  refine lv_aload_n hx hb dX4_copyFrom_35 rfl (lv_at hl 1 rfl) ?_
  obtain ⟨v10, ev10, hf⟩ := mm_bd hf
  refine mm_getI C hR fs_X4_19 ev10 dX4_copyFrom_36 ?_
  obtain ⟨M11, eM11, hf⟩ := mm_bd hf
  refine mm_putI C hR hS ps_X4_19 eM11 dX4_copyFrom_39 (fun H locs hR hS => ?_)
  refine lv_aload_n hx hb dX4_copyFrom_42 rfl (lv_at hl 0 rfl) ?_
  refine lv_aload_n hx hb dX4_copyFrom_43 rfl (lv_at hl 1 rfl) ?_
  obtain ⟨v12, ev12, hf⟩ := mm_bd hf
  refine mm_getI C hR fs_X4_22 ev12 dX4_copyFrom_44 ?_
  obtain ⟨M13, eM13, hf⟩ := mm_bd hf
  refine mm_putI C hR hS ps_X4_22 eM13 dX4_copyFrom_47 (fun H locs hR hS => ?_)
  refine lv_aload_n hx hb dX4_copyFrom_50 rfl (lv_at hl 0 rfl) ?_
  refine lv_aload_n hx hb dX4_copyFrom_51 rfl (lv_at hl 1 rfl) ?_
  obtain ⟨v14, ev14, hf⟩ := mm_bd hf
  refine mm_getI C hR fs_X4_28 ev14 dX4_copyFrom_52 ?_
  obtain ⟨M15, eM15, hf⟩ := mm_bd hf
  refine mm_putI C hR hS ps_X4_28 eM15 dX4_copyFrom_55 (fun H locs hR hS => ?_)
  exact mm_vre C hR hS hr (Option.some.inj hf) dX4_copyFrom_58
def ff_X4_left (M : mm_M) (x0 : Nat) : Option Int32 := Option.bind (mm_gI 4 M x0 2) fun v1 => Option.bind (mm_gI 4 M x0 4) fun v2 => some (v1 - v2)
def rm_X4_left : Room := { frames := 0, cells := 0, slots := 0, locals := 0 }
set_option maxHeartbeats 4000000 in
set_option maxRecDepth 100000 in
theorem jj_X4_left (l : Launch) (g : mm_G) (A : Nat → Prop) (M : mm_M) (x0 : Nat) (r : Int32) (hf : ff_X4_left M x0 = some r) : Met l yX4_left (mm_ws yX4_left cX4_left 1 (Option.some Jvm.ClassFile.FieldType.int)) rm_X4_left (va_Pc [.ref x0] (mm_B g A M)) (mm_Ti g A r M) 0 0 A := by
  refine mm_met (g := g) (lv := [(0, .ref x0)]) (fun U h => h.2) (by decide +kernel) (Nat.le_of_ble_eq_true rfl) rfl ?_
  intro p e s m args below meth c ls C hr hnm hB hl
  obtain ⟨hR, hK⟩ := hB
  have hx := C.1
  have hb := C.2.1
  suffices hmain : ∀ (H : Heap) (locs : List Loc), mm_R g A M H → va_S A s.heap H locs → W p l e rm_X4_left s m args below meth c H locs 0 0 (MQ below (mm_Ti g A r M) args s 0 0 A) (F0 m 0 ls []) from hmain _ _ hR va_S.rf
  clear hR
  intro H locs hR hS
  unfold ff_X4_left at hf
  refine lv_aload_n hx hb dX4_left_0 rfl (lv_at hl 0 rfl) ?_
  obtain ⟨v1, ev1, hf⟩ := mm_bd hf
  refine mm_getI C hR fs_X4_15 ev1 dX4_left_1 ?_
  refine lv_aload_n hx hb dX4_left_4 rfl (lv_at hl 0 rfl) ?_
  obtain ⟨v2, ev2, hf⟩ := mm_bd hf
  refine mm_getI C hR fs_X4_22 ev2 dX4_left_5 ?_
  refine lv_isub hx hb dX4_left_8 ?_
  exact mm_ire C hR hS hr ((Option.some.inj hf)) rfl dX4_left_9
def ff_X4_begin (M : mm_M) (x0 : Nat) (x1 : Int32) (x2 : Int32) : Option mm_M := Option.bind (mm_pI 4 M x0 2 x1) fun M1 => Option.bind (mm_pI 4 M1 x0 3 x2) fun M2 => Option.bind (mm_pI 4 M2 x0 4 (0 : Int32)) fun M3 => Option.bind (mm_pI 4 M3 x0 1 (0 : Int32)) fun M4 => Option.bind (mm_pI 4 M4 x0 5 (0 : Int32)) fun M5 => some M5
def rm_X4_begin : Room := { frames := 0, cells := 0, slots := 0, locals := 0 }
set_option maxHeartbeats 4000000 in
set_option maxRecDepth 100000 in
theorem jj_X4_begin (l : Launch) (g : mm_G) (A : Nat → Prop) (M : mm_M) (x0 : Nat) (x1 : Int32) (x2 : Int32) (M2 : mm_M) (hf : ff_X4_begin M x0 x1 x2 = some M2) : Met l yX4_begin (mm_ws yX4_begin cX4_begin 3 (Option.none : Option Jvm.ClassFile.FieldType)) rm_X4_begin (va_Pc [.ref x0, .int x1, .int x2] (mm_B g A M)) (mm_Tv g A M2) 0 0 A := by
  refine mm_met (g := g) (lv := [(0, .ref x0), (1, .int x1), (2, .int x2)]) (fun U h => h.2) (by decide +kernel) (Nat.le_of_ble_eq_true rfl) rfl ?_
  intro p e s m args below meth c ls C hr hnm hB hl
  obtain ⟨hR, hK⟩ := hB
  have hx := C.1
  have hb := C.2.1
  suffices hmain : ∀ (H : Heap) (locs : List Loc), mm_R g A M H → va_S A s.heap H locs → W p l e rm_X4_begin s m args below meth c H locs 0 0 (MQ below (mm_Tv g A M2) args s 0 0 A) (F0 m 0 ls []) from hmain _ _ hR va_S.rf
  clear hR
  intro H locs hR hS
  unfold ff_X4_begin at hf
  refine lv_aload_n hx hb dX4_begin_0 rfl (lv_at hl 0 rfl) ?_
  refine lv_iload_n hx hb dX4_begin_1 rfl (lv_at hl 1 rfl) ?_
  obtain ⟨M1, eM1, hf⟩ := mm_bd hf
  refine mm_putI C hR hS ps_X4_15 eM1 dX4_begin_2 (fun H locs hR hS => ?_)
  refine lv_aload_n hx hb dX4_begin_5 rfl (lv_at hl 0 rfl) ?_
  refine lv_iload_n hx hb dX4_begin_6 rfl (lv_at hl 2 rfl) ?_
  obtain ⟨M2, eM2, hf⟩ := mm_bd hf
  refine mm_putI C hR hS ps_X4_19 eM2 dX4_begin_7 (fun H locs hR hS => ?_)
  refine lv_aload_n hx hb dX4_begin_10 rfl (lv_at hl 0 rfl) ?_
  refine lv_iconst (v := 0) hx hb dX4_begin_11 (by decide) ?_
  obtain ⟨M3, eM3, hf⟩ := mm_bd hf
  refine mm_putI C hR hS ps_X4_22 eM3 dX4_begin_12 (fun H locs hR hS => ?_)
  refine lv_aload_n hx hb dX4_begin_15 rfl (lv_at hl 0 rfl) ?_
  refine lv_iconst (v := 0) hx hb dX4_begin_16 (by decide) ?_
  obtain ⟨M4, eM4, hf⟩ := mm_bd hf
  refine mm_putI C hR hS ps_X4_25 eM4 dX4_begin_17 (fun H locs hR hS => ?_)
  refine lv_aload_n hx hb dX4_begin_20 rfl (lv_at hl 0 rfl) ?_
  refine lv_iconst (v := 0) hx hb dX4_begin_21 (by decide) ?_
  obtain ⟨M5, eM5, hf⟩ := mm_bd hf
  refine mm_putI C hR hS ps_X4_28 eM5 dX4_begin_22 (fun H locs hR hS => ?_)
  exact mm_vre C hR hS hr (Option.some.inj hf) dX4_begin_25
def ff_X4_hasFlawIn_j41 (M : mm_M) (x0 : Nat) (x1 : Int32) (x2 : Int32) (x3 : Int32) : Option (Int32 ⊕ (Int32 ⊕ Int32)) := some (.inl (x3 + (1 : Int32)))
def ff_X4_hasFlawIn_l2 (M : mm_M) (x0 : Nat) (x1 : Int32) (x2 : Int32) (x3 : Int32) : Option (Int32 ⊕ (Int32 ⊕ Int32)) := Option.bind (mm_gI 4 M x0 1) fun v1 => if v1 ≤ x3 then (some (.inr (.inl x3))) else (Option.bind (mm_gR 4 M x0 0) fun v2 => Option.bind (mm_ln M v2) fun v3 => if v3 ≤ x3 then (some (.inr (.inl x3))) else (Option.bind (mm_gR 4 M x0 0) fun v4 => Option.bind (mm_aI 0 M v4 x3) fun v5 => if v5 < x1 then (ff_X4_hasFlawIn_j41 M x0 x1 x2 x3) else (Option.bind (mm_gR 4 M x0 0) fun v6 => Option.bind (mm_aI 0 M v6 x3) fun v7 => if x2 ≤ v7 then (ff_X4_hasFlawIn_j41 M x0 x1 x2 x3) else (some (.inr (.inr (1 : Int32)))))))
def ff_X4_hasFlawIn (M : mm_M) (x0 : Nat) (x1 : Int32) (x2 : Int32) : Option Int32 := Option.bind (mm_it (mm_u1 (ff_X4_hasFlawIn_l2 M x0 x1 x2)) mm_fu (0 : Int32)) fun e8 => Sum.elim (mm_u1 (fun x3_9 => some (0 : Int32))) some e8
def rm_X4_hasFlawIn : Room := { frames := 0, cells := 0, slots := 0, locals := 0 }
set_option maxHeartbeats 4000000 in
set_option maxRecDepth 100000 in
theorem jj_X4_hasFlawIn (l : Launch) (g : mm_G) (A : Nat → Prop) (M : mm_M) (x0 : Nat) (x1 : Int32) (x2 : Int32) (r : Int32) (hf : ff_X4_hasFlawIn M x0 x1 x2 = some r) : Met l yX4_hasFlawIn (mm_ws yX4_hasFlawIn cX4_hasFlawIn 4 (Option.some Jvm.ClassFile.FieldType.boolean)) rm_X4_hasFlawIn (va_Pc [.ref x0, .int x1, .int x2] (mm_B g A M)) (mm_Ti g A r M) 0 0 A := by
  refine mm_met (g := g) (lv := [(0, .ref x0), (1, .int x1), (2, .int x2)]) (fun U h => h.2) (by decide +kernel) (Nat.le_of_ble_eq_true rfl) rfl ?_
  intro p e s m args below meth c ls C hr hnm hB hl
  obtain ⟨hR, hK⟩ := hB
  have hx := C.1
  have hb := C.2.1
  suffices hmain : ∀ (H : Heap) (locs : List Loc), mm_R g A M H → va_S A s.heap H locs → W p l e rm_X4_hasFlawIn s m args below meth c H locs 0 0 (MQ below (mm_Ti g A r M) args s 0 0 A) (F0 m 0 ls []) from hmain _ _ hR va_S.rf
  clear hR
  intro H locs hR hS
  have L2 : ∀ (x0 : Nat) (x1 : Int32) (x2 : Int32) (e1 : Int32 ⊕ Int32) (hX : ∀ (x3 : Int32), e1 = .inl x3 → ∀ (H : Heap) (locs : List Loc) (ls : Array Slot), mm_R g A M H → va_S A s.heap H locs → lv_has ls 4 [] → W p l e rm_X4_hasFlawIn s m args below meth c H locs 0 0 (MQ below (mm_Ti g A r M) args s 0 0 A) (F0 m 47 ls [])) (hY : ∀ (v : Int32), e1 = .inr v → v = r) (n : Nat) (x3 : Int32), mm_it (mm_u1 (ff_X4_hasFlawIn_l2 M x0 x1 x2)) n x3 = some e1 → ∀ (H : Heap) (locs : List Loc) (ls : Array Slot), mm_R g A M H → va_S A s.heap H locs → lv_has ls 4 [(0, .ref x0), (1, .int x1), (2, .int x2), (3, .int x3)] → W p l e rm_X4_hasFlawIn s m args below meth c H locs 0 0 (MQ below (mm_Ti g A r M) args s 0 0 A) (F0 m 2 ls []) := by
    intro x0 x1 x2 e1 hX hY n x3 hit
    refine mm_itW (Hd := fun st => ∀ (H : Heap) (locs : List Loc) (ls : Array Slot), mm_R g A M H → va_S A s.heap H locs → lv_has ls 4 [(0, .ref x0), (1, .int x1), (2, .int x2), (3, .int st)] → W p l e rm_X4_hasFlawIn s m args below meth c H locs 0 0 (MQ below (mm_Ti g A r M) args s 0 0 A) (F0 m 2 ls [])) (fun st y hf hin hout => ?_) n x3 hit
    revert hf; generalize st = x3; intro hf
    have hf := mm_u1e hf
    have J41 : ∀ (x3 : Int32) (H : Heap) (locs : List Loc) (ls : Array Slot), mm_R g A M H → va_S A s.heap H locs → lv_has ls 4 [(0, .ref x0), (1, .int x1), (2, .int x2), (3, .int x3)] → ff_X4_hasFlawIn_j41 M x0 x1 x2 x3 = some y → W p l e rm_X4_hasFlawIn s m args below meth c H locs 0 0 (MQ below (mm_Ti g A r M) args s 0 0 A) (F0 m 41 ls []) := by
      intro x3 H locs ls hR hS hl hf
      unfold ff_X4_hasFlawIn_j41 at hf
      refine lv_iinc (v := (x3 + (1 : Int32))) (lv' := [(3, .int (x3 + (1 : Int32))), (0, .ref x0), (1, .int x1), (2, .int x2)]) hx hb dX4_hasFlawIn_41 hl (k := 3) rfl rfl (by decide) rfl (fun ls hl => ?_)
      refine lv_goto (tgt := 2) hx hb dX4_hasFlawIn_44 (by decide) ?_
      exact hin _ (Option.some.inj hf).symm H locs ls hR hS (lv_sub hl [1, 2, 3, 0] rfl)
    intro H locs ls hR hS hl
    unfold ff_X4_hasFlawIn_l2 at hf
    refine lv_iload_n hx hb dX4_hasFlawIn_2 rfl (lv_at hl 3 rfl) ?_
    refine lv_aload_n hx hb dX4_hasFlawIn_3 rfl (lv_at hl 0 rfl) ?_
    obtain ⟨v1, ev1, hf⟩ := mm_bd hf
    refine mm_getI C hR fs_X4_25 ev1 dX4_hasFlawIn_4 ?_
    refine lv_icmp_ge (tgt := 47) hx hb dX4_hasFlawIn_7 (by decide) (fun hc => ?_) (fun hc => ?_)
    · have hf := mm_if1 hc hf
      exact hX _ (hout _ (Option.some.inj hf).symm).symm H locs ls hR hS (lv_sub hl [] rfl)
    · have hf := mm_if0 hc hf
      refine lv_iload_n hx hb dX4_hasFlawIn_10 rfl (lv_at hl 3 rfl) ?_
      refine lv_aload_n hx hb dX4_hasFlawIn_11 rfl (lv_at hl 0 rfl) ?_
      obtain ⟨v2, ev2, hf⟩ := mm_bd hf
      refine mm_getR C hR fs_X4_9 ev2 dX4_hasFlawIn_12 ?_
      obtain ⟨v3, ev3, hf⟩ := mm_bd hf
      refine mm_alen C hR ev3 dX4_hasFlawIn_15 ?_
      refine lv_icmp_ge (tgt := 47) hx hb dX4_hasFlawIn_16 (by decide) (fun hc => ?_) (fun hc => ?_)
      · have hf := mm_if1 hc hf
        exact hX _ (hout _ (Option.some.inj hf).symm).symm H locs ls hR hS (lv_sub hl [] rfl)
      · have hf := mm_if0 hc hf
        refine lv_aload_n hx hb dX4_hasFlawIn_19 rfl (lv_at hl 0 rfl) ?_
        obtain ⟨v4, ev4, hf⟩ := mm_bd hf
        refine mm_getR C hR fs_X4_9 ev4 dX4_hasFlawIn_20 ?_
        refine lv_iload_n hx hb dX4_hasFlawIn_23 rfl (lv_at hl 3 rfl) ?_
        obtain ⟨v5, ev5, hf⟩ := mm_bd hf
        refine mm_iald C hR ev5 dX4_hasFlawIn_24 ?_
        refine lv_iload_n hx hb dX4_hasFlawIn_25 rfl (lv_at hl 1 rfl) ?_
        refine lv_icmp_lt (tgt := 41) hx hb dX4_hasFlawIn_26 (by decide) (fun hc => ?_) (fun hc => ?_)
        · have hf := mm_if1 hc hf
          exact J41 x3 H locs ls hR hS (lv_sub hl [0, 1, 2, 3] rfl) hf
        · have hf := mm_if0 hc hf
          refine lv_aload_n hx hb dX4_hasFlawIn_29 rfl (lv_at hl 0 rfl) ?_
          obtain ⟨v6, ev6, hf⟩ := mm_bd hf
          refine mm_getR C hR fs_X4_9 ev6 dX4_hasFlawIn_30 ?_
          refine lv_iload_n hx hb dX4_hasFlawIn_33 rfl (lv_at hl 3 rfl) ?_
          obtain ⟨v7, ev7, hf⟩ := mm_bd hf
          refine mm_iald C hR ev7 dX4_hasFlawIn_34 ?_
          refine lv_iload_n hx hb dX4_hasFlawIn_35 rfl (lv_at hl 2 rfl) ?_
          refine lv_icmp_ge (tgt := 41) hx hb dX4_hasFlawIn_36 (by decide) (fun hc => ?_) (fun hc => ?_)
          · have hf := mm_if1 hc hf
            exact J41 x3 H locs ls hR hS (lv_sub hl [0, 1, 2, 3] rfl) hf
          · have hf := mm_if0 hc hf
            refine lv_iconst (v := 1) hx hb dX4_hasFlawIn_39 (by decide) ?_
            exact mm_zre C hR hS hr (Or.inr rfl) ((hY _ (hout _ (Option.some.inj hf).symm).symm)) rfl dX4_hasFlawIn_40
  unfold ff_X4_hasFlawIn at hf
  refine lv_iconst (v := 0) hx hb dX4_hasFlawIn_0 (by decide) ?_
  refine lv_istore_n (lv' := [(3, .int (0 : Int32)), (0, .ref x0), (1, .int x1), (2, .int x2)]) hx hb dX4_hasFlawIn_1 rfl hl (by decide) rfl (fun ls hl => ?_)
  obtain ⟨e8, he8, hf⟩ := mm_bd hf
  refine L2 x0 x1 x2 e8 (fun x3_9 he => ?_) (fun v he => by subst he; exact Option.some.inj (mm_sr hf)) _ (0 : Int32) he8 H locs ls hR hS (lv_sub hl [1, 2, 3, 0] rfl)
  subst he
  intro H locs ls hR hS hl
  have hf := mm_sl hf
  have hf := mm_u1e hf
  refine lv_iconst (v := 0) hx hb dX4_hasFlawIn_47 (by decide) ?_
  exact mm_zre C hR hS hr (Or.inl rfl) ((Option.some.inj hf)) rfl dX4_hasFlawIn_48
def ff_X4_addFlaw (M : mm_M) (x0 : Nat) (x1 : Int32) : Option mm_M := Option.bind (mm_gI 4 M x0 1) fun v1 => Option.bind (mm_gR 4 M x0 0) fun v2 => Option.bind (mm_ln M v2) fun v3 => if v3 ≤ v1 then (some M) else (Option.bind (mm_gR 4 M x0 0) fun v4 => Option.bind (mm_gI 4 M x0 1) fun v5 => Option.bind (mm_sI 0 M v4 v5 x1) fun M6 => Option.bind (mm_gI 4 M6 x0 1) fun v7 => Option.bind (mm_pI 4 M6 x0 1 (v7 + (1 : Int32))) fun M8 => some M8)
def rm_X4_addFlaw : Room := { frames := 0, cells := 0, slots := 0, locals := 0 }
set_option maxHeartbeats 4000000 in
set_option maxRecDepth 100000 in
theorem jj_X4_addFlaw (l : Launch) (g : mm_G) (A : Nat → Prop) (M : mm_M) (x0 : Nat) (x1 : Int32) (M2 : mm_M) (hf : ff_X4_addFlaw M x0 x1 = some M2) : Met l yX4_addFlaw (mm_ws yX4_addFlaw cX4_addFlaw 2 (Option.none : Option Jvm.ClassFile.FieldType)) rm_X4_addFlaw (va_Pc [.ref x0, .int x1] (mm_B g A M)) (mm_Tv g A M2) 0 0 A := by
  refine mm_met (g := g) (lv := [(0, .ref x0), (1, .int x1)]) (fun U h => h.2) (by decide +kernel) (Nat.le_of_ble_eq_true rfl) rfl ?_
  intro p e s m args below meth c ls C hr hnm hB hl
  obtain ⟨hR, hK⟩ := hB
  have hx := C.1
  have hb := C.2.1
  suffices hmain : ∀ (H : Heap) (locs : List Loc), mm_R g A M H → va_S A s.heap H locs → W p l e rm_X4_addFlaw s m args below meth c H locs 0 0 (MQ below (mm_Tv g A M2) args s 0 0 A) (F0 m 0 ls []) from hmain _ _ hR va_S.rf
  clear hR
  intro H locs hR hS
  unfold ff_X4_addFlaw at hf
  refine lv_aload_n hx hb dX4_addFlaw_0 rfl (lv_at hl 0 rfl) ?_
  obtain ⟨v1, ev1, hf⟩ := mm_bd hf
  refine mm_getI C hR fs_X4_25 ev1 dX4_addFlaw_1 ?_
  refine lv_aload_n hx hb dX4_addFlaw_4 rfl (lv_at hl 0 rfl) ?_
  obtain ⟨v2, ev2, hf⟩ := mm_bd hf
  refine mm_getR C hR fs_X4_9 ev2 dX4_addFlaw_5 ?_
  obtain ⟨v3, ev3, hf⟩ := mm_bd hf
  refine mm_alen C hR ev3 dX4_addFlaw_8 ?_
  refine lv_icmp_ge (tgt := 32) hx hb dX4_addFlaw_9 (by decide) (fun hc => ?_) (fun hc => ?_)
  · have hf := mm_if1 hc hf
    exact mm_vre C hR hS hr (Option.some.inj hf) dX4_addFlaw_32
  · have hf := mm_if0 hc hf
    refine lv_aload_n hx hb dX4_addFlaw_12 rfl (lv_at hl 0 rfl) ?_
    obtain ⟨v4, ev4, hf⟩ := mm_bd hf
    refine mm_getR C hR fs_X4_9 ev4 dX4_addFlaw_13 ?_
    refine lv_aload_n hx hb dX4_addFlaw_16 rfl (lv_at hl 0 rfl) ?_
    obtain ⟨v5, ev5, hf⟩ := mm_bd hf
    refine mm_getI C hR fs_X4_25 ev5 dX4_addFlaw_17 ?_
    refine lv_iload_n hx hb dX4_addFlaw_20 rfl (lv_at hl 1 rfl) ?_
    obtain ⟨M6, eM6, hf⟩ := mm_bd hf
    refine mm_iast C hR hS eM6 dX4_addFlaw_21 (fun H locs hR hS => ?_)
    refine lv_aload_n hx hb dX4_addFlaw_22 rfl (lv_at hl 0 rfl) ?_
    refine lv_dup hx hb dX4_addFlaw_23 rfl ?_
    obtain ⟨v7, ev7, hf⟩ := mm_bd hf
    refine mm_getI C hR fs_X4_25 ev7 dX4_addFlaw_24 ?_
    refine lv_iconst (v := 1) hx hb dX4_addFlaw_27 (by decide) ?_
    refine lv_iadd hx hb dX4_addFlaw_28 ?_
    obtain ⟨M8, eM8, hf⟩ := mm_bd hf
    refine mm_putI C hR hS ps_X4_25 eM8 dX4_addFlaw_29 (fun H locs hR hS => ?_)
    exact mm_vre C hR hS hr (Option.some.inj hf) dX4_addFlaw_32
def ff_X4_cutOff_j22 (M : mm_M) (x0 : Nat) (x1 : Int32) (x2 : Int32) (y0 : Int32) : Option ((Int32 × mm_M)) := Option.bind (mm_gI 4 M x0 4) fun v5 => Option.bind (mm_gI 4 M x0 2) fun v6 => Option.bind (mm_pI 4 M x0 4 (mm_mn ((v5 + x1) + x2) v6)) fun M7 => if y0 = (0 : Int32) then (Option.bind (mm_bz y0) fun b8 => some (b8, M7)) else (Option.bind (mm_gI 4 M7 x0 5) fun v9 => Option.bind (mm_pI 4 M7 x0 5 (v9 + (1 : Int32))) fun M10 => Option.bind (mm_bz y0) fun b11 => some (b11, M10))
def ff_X4_cutOff (M : mm_M) (x0 : Nat) (x1 : Int32) (x2 : Int32) : Option ((Int32 × mm_M)) := Option.bind (mm_gI 4 M x0 4) fun v1 => Option.bind (mm_gI 4 M x0 4) fun v2 => Option.bind (mm_ck 4 M x0) fun u3 => Option.bind (ff_X4_hasFlawIn M x0 v1 (v2 + x1)) fun v4 => if v4 = (0 : Int32) then (ff_X4_cutOff_j22 M x0 x1 x2 (1 : Int32)) else (ff_X4_cutOff_j22 M x0 x1 x2 (0 : Int32))
def rm_X4_cutOff : Room := { frames := 1, cells := 0, slots := 0, locals := 23 }
set_option maxHeartbeats 4000000 in
set_option maxRecDepth 100000 in
theorem jj_X4_cutOff (l : Launch) (g : mm_G) (A : Nat → Prop) (M : mm_M) (x0 : Nat) (x1 : Int32) (x2 : Int32) (r : Int32) (M2 : mm_M) (hf : ff_X4_cutOff M x0 x1 x2 = some (r, M2)) : Met l yX4_cutOff (mm_ws yX4_cutOff cX4_cutOff 4 (Option.some Jvm.ClassFile.FieldType.boolean)) rm_X4_cutOff (va_Pc [.ref x0, .int x1, .int x2] (mm_B g A M)) (mm_Ti g A r M2) 0 0 A := by
  refine mm_met (g := g) (lv := [(0, .ref x0), (1, .int x1), (2, .int x2)]) (fun U h => h.2) (by decide +kernel) (Nat.le_of_ble_eq_true rfl) rfl ?_
  intro p e s m args below meth c ls C hr hnm hB hl
  obtain ⟨hR, hK⟩ := hB
  have hx := C.1
  have hb := C.2.1
  suffices hmain : ∀ (H : Heap) (locs : List Loc), mm_R g A M H → va_S A s.heap H locs → W p l e rm_X4_cutOff s m args below meth c H locs 0 0 (MQ below (mm_Ti g A r M2) args s 0 0 A) (F0 m 0 ls []) from hmain _ _ hR va_S.rf
  clear hR
  intro H locs hR hS
  have J22 : ∀ (M : mm_M) (x0 : Nat) (x1 : Int32) (x2 : Int32) (y0 : Int32) (H : Heap) (locs : List Loc) (ls : Array Slot), mm_R g A M H → va_S A s.heap H locs → lv_has ls 4 [(0, .ref x0), (1, .int x1), (2, .int x2)] → ff_X4_cutOff_j22 M x0 x1 x2 y0 = some (r, M2) → W p l e rm_X4_cutOff s m args below meth c H locs 0 0 (MQ below (mm_Ti g A r M2) args s 0 0 A) (F0 m 22 ls [.int y0]) := by
    intro M x0 x1 x2 y0 H locs ls hR hS hl hf
    unfold ff_X4_cutOff_j22 at hf
    refine lv_istore_n (lv' := [(3, .int y0), (0, .ref x0), (1, .int x1), (2, .int x2)]) hx hb dX4_cutOff_22 rfl hl (by decide) rfl (fun ls hl => ?_)
    refine lv_aload_n hx hb dX4_cutOff_23 rfl (lv_at hl 1 rfl) ?_
    refine lv_aload_n hx hb dX4_cutOff_24 rfl (lv_at hl 1 rfl) ?_
    obtain ⟨v5, ev5, hf⟩ := mm_bd hf
    refine mm_getI C hR fs_X4_22 ev5 dX4_cutOff_25 ?_
    refine lv_iload_n hx hb dX4_cutOff_28 rfl (lv_at hl 2 rfl) ?_
    refine lv_iadd hx hb dX4_cutOff_29 ?_
    refine lv_iload_n hx hb dX4_cutOff_30 rfl (lv_at hl 3 rfl) ?_
    refine lv_iadd hx hb dX4_cutOff_31 ?_
    refine lv_aload_n hx hb dX4_cutOff_32 rfl (lv_at hl 1 rfl) ?_
    obtain ⟨v6, ev6, hf⟩ := mm_bd hf
    refine mm_getI C hR fs_X4_15 ev6 dX4_cutOff_33 ?_
    refine mm_min C hl.1 mw_472 mw_283 mw_11 mc_min (Nat.le_of_ble_eq_true rfl) (Nat.le_of_ble_eq_true rfl) ⟨Nat.zero_le _, Nat.zero_le _⟩ dX4_cutOff_36 ?_
    obtain ⟨M7, eM7, hf⟩ := mm_bd hf
    refine mm_putI C hR hS ps_X4_22 eM7 dX4_cutOff_39 (fun H locs hR hS => ?_)
    refine lv_iload_n hx hb dX4_cutOff_42 rfl (lv_at hl 0 rfl) ?_
    refine lv_if_eq (tgt := 56) hx hb dX4_cutOff_43 (by decide) (fun hc => ?_) (fun hc => ?_)
    · have hf := mm_if1 hc hf
      refine lv_iload_n hx hb dX4_cutOff_56 rfl (lv_at hl 0 rfl) ?_
      obtain ⟨b8, eb8, hf⟩ := mm_bd hf
      exact mm_zre C hR hS hr (mm_bz_s eb8).1 ((mm_bz_s eb8).2.trans (mm_pe hf).1) (mm_pe hf).2 dX4_cutOff_57
    · have hf := mm_if0 hc hf
      refine lv_aload_n hx hb dX4_cutOff_46 rfl (lv_at hl 1 rfl) ?_
      refine lv_dup hx hb dX4_cutOff_47 rfl ?_
      obtain ⟨v9, ev9, hf⟩ := mm_bd hf
      refine mm_getI C hR fs_X4_28 ev9 dX4_cutOff_48 ?_
      refine lv_iconst (v := 1) hx hb dX4_cutOff_51 (by decide) ?_
      refine lv_iadd hx hb dX4_cutOff_52 ?_
      obtain ⟨M10, eM10, hf⟩ := mm_bd hf
      refine mm_putI C hR hS ps_X4_28 eM10 dX4_cutOff_53 (fun H locs hR hS => ?_)
      refine lv_iload_n hx hb dX4_cutOff_56 rfl (lv_at hl 0 rfl) ?_
      obtain ⟨b11, eb11, hf⟩ := mm_bd hf
      exact mm_zre C hR hS hr (mm_bz_s eb11).1 ((mm_bz_s eb11).2.trans (mm_pe hf).1) (mm_pe hf).2 dX4_cutOff_57
  unfold ff_X4_cutOff at hf
  refine lv_aload_n hx hb dX4_cutOff_0 rfl (lv_at hl 0 rfl) ?_
  refine lv_aload_n hx hb dX4_cutOff_1 rfl (lv_at hl 0 rfl) ?_
  obtain ⟨v1, ev1, hf⟩ := mm_bd hf
  refine mm_getI C hR fs_X4_22 ev1 dX4_cutOff_2 ?_
  refine lv_aload_n hx hb dX4_cutOff_5 rfl (lv_at hl 0 rfl) ?_
  obtain ⟨v2, ev2, hf⟩ := mm_bd hf
  refine mm_getI C hR fs_X4_22 ev2 dX4_cutOff_6 ?_
  refine lv_iload_n hx hb dX4_cutOff_9 rfl (lv_at hl 1 rfl) ?_
  refine lv_iadd hx hb dX4_cutOff_10 ?_
  obtain ⟨u3, eu3, hf⟩ := mm_bd hf
  obtain ⟨v4, ev4, hf⟩ := mm_bd hf
  refine mm_callVi (As := [.int v1, .int (v2 + x1)]) (rest := []) C hR hS hl.1 vs_X4_41 eu3 (jj_X4_hasFlawIn l g A M x0 v1 (v2 + x1) v4 ev4) ⟨rfl, rfl, (Nat.le_of_ble_eq_true rfl), (Nat.le_of_ble_eq_true rfl)⟩ rfl (Nat.le_of_ble_eq_true rfl) ⟨Nat.zero_le _, Nat.zero_le _⟩ rfl dX4_cutOff_11 (fun H locs hR hS => ?_)
  refine lv_if_ne (tgt := 21) hx hb dX4_cutOff_14 (by decide) (fun hc => ?_) (fun hc => ?_)
  · have hf := mm_if0 hc hf
    refine lv_iconst (v := 0) hx hb dX4_cutOff_21 (by decide) ?_
    exact J22 M x0 x1 x2 (0 : Int32) H locs ls hR hS (lv_sub hl [0, 1, 2] rfl) hf
  · have hf := mm_if1 hc hf
    refine lv_iconst (v := 1) hx hb dX4_cutOff_17 (by decide) ?_
    refine lv_goto (tgt := 22) hx hb dX4_cutOff_18 (by decide) ?_
    exact J22 M x0 x1 x2 (1 : Int32) H locs ls hR hS (lv_sub hl [0, 1, 2] rfl) hf
def ff_X4_tesseraeAhead (M : mm_M) (x0 : Nat) (x1 : Int32) (x2 : Int32) : Option Int32 := Option.bind (mm_gI 4 M x0 2) fun v1 => Option.bind (mm_gI 4 M x0 4) fun v2 => if (x1 + x2) ≤ (0 : Int32) then (some (0 : Int32)) else (if x1 ≤ (v1 - v2) then (Option.bind (mm_dv ((v1 - v2) - x1) (x1 + x2)) fun v3 => some (v3 + (1 : Int32))) else (some (0 : Int32)))
def rm_X4_tesseraeAhead : Room := { frames := 0, cells := 0, slots := 0, locals := 0 }
set_option maxHeartbeats 4000000 in
set_option maxRecDepth 100000 in
theorem jj_X4_tesseraeAhead (l : Launch) (g : mm_G) (A : Nat → Prop) (M : mm_M) (x0 : Nat) (x1 : Int32) (x2 : Int32) (r : Int32) (hf : ff_X4_tesseraeAhead M x0 x1 x2 = some r) : Met l yX4_tesseraeAhead (mm_ws yX4_tesseraeAhead cX4_tesseraeAhead 5 (Option.some Jvm.ClassFile.FieldType.int)) rm_X4_tesseraeAhead (va_Pc [.ref x0, .int x1, .int x2] (mm_B g A M)) (mm_Ti g A r M) 0 0 A := by
  refine mm_met (g := g) (lv := [(0, .ref x0), (1, .int x1), (2, .int x2)]) (fun U h => h.2) (by decide +kernel) (Nat.le_of_ble_eq_true rfl) rfl ?_
  intro p e s m args below meth c ls C hr hnm hB hl
  obtain ⟨hR, hK⟩ := hB
  have hx := C.1
  have hb := C.2.1
  suffices hmain : ∀ (H : Heap) (locs : List Loc), mm_R g A M H → va_S A s.heap H locs → W p l e rm_X4_tesseraeAhead s m args below meth c H locs 0 0 (MQ below (mm_Ti g A r M) args s 0 0 A) (F0 m 0 ls []) from hmain _ _ hR va_S.rf
  clear hR
  intro H locs hR hS
  unfold ff_X4_tesseraeAhead at hf
  refine lv_aload_n hx hb dX4_tesseraeAhead_0 rfl (lv_at hl 0 rfl) ?_
  obtain ⟨v1, ev1, hf⟩ := mm_bd hf
  refine mm_getI C hR fs_X4_15 ev1 dX4_tesseraeAhead_1 ?_
  refine lv_aload_n hx hb dX4_tesseraeAhead_4 rfl (lv_at hl 0 rfl) ?_
  obtain ⟨v2, ev2, hf⟩ := mm_bd hf
  refine mm_getI C hR fs_X4_22 ev2 dX4_tesseraeAhead_5 ?_
  refine lv_isub hx hb dX4_tesseraeAhead_8 ?_
  refine lv_istore_n (lv' := [(3, .int (v1 - v2)), (0, .ref x0), (1, .int x1), (2, .int x2)]) hx hb dX4_tesseraeAhead_9 rfl hl (by decide) rfl (fun ls hl => ?_)
  refine lv_iload_n hx hb dX4_tesseraeAhead_10 rfl (lv_at hl 2 rfl) ?_
  refine lv_iload_n hx hb dX4_tesseraeAhead_11 rfl (lv_at hl 3 rfl) ?_
  refine lv_iadd hx hb dX4_tesseraeAhead_12 ?_
  refine lv_istore (lv' := [(4, .int (x1 + x2)), (3, .int (v1 - v2)), (0, .ref x0), (1, .int x1), (2, .int x2)]) hx hb dX4_tesseraeAhead_13 hl (by decide) rfl (fun ls hl => ?_)
  refine lv_iload hx hb dX4_tesseraeAhead_15 (lv_at hl 0 rfl) ?_
  refine lv_if_le (tgt := 25) hx hb dX4_tesseraeAhead_17 (by decide) (fun hc => ?_) (fun hc => ?_)
  · have hf := mm_if1 hc hf
    refine lv_iconst (v := 0) hx hb dX4_tesseraeAhead_25 (by decide) ?_
    exact mm_ire C hR hS hr ((Option.some.inj hf)) rfl dX4_tesseraeAhead_26
  · have hf := mm_if0 hc hf
    refine lv_iload_n hx hb dX4_tesseraeAhead_20 rfl (lv_at hl 1 rfl) ?_
    refine lv_iload_n hx hb dX4_tesseraeAhead_21 rfl (lv_at hl 3 rfl) ?_
    refine lv_icmp_ge (tgt := 27) hx hb dX4_tesseraeAhead_22 (by decide) (fun hc => ?_) (fun hc => ?_)
    · have hf := mm_if1 hc hf
      refine lv_iload_n hx hb dX4_tesseraeAhead_27 rfl (lv_at hl 1 rfl) ?_
      refine lv_iload_n hx hb dX4_tesseraeAhead_28 rfl (lv_at hl 3 rfl) ?_
      refine lv_isub hx hb dX4_tesseraeAhead_29 ?_
      refine lv_iload hx hb dX4_tesseraeAhead_30 (lv_at hl 0 rfl) ?_
      obtain ⟨v3, ev3, hf⟩ := mm_bd hf
      refine mm_idiv C ev3 dX4_tesseraeAhead_32 ?_
      refine lv_iconst (v := 1) hx hb dX4_tesseraeAhead_33 (by decide) ?_
      refine lv_iadd hx hb dX4_tesseraeAhead_34 ?_
      exact mm_ire C hR hS hr ((Option.some.inj hf)) rfl dX4_tesseraeAhead_35
    · have hf := mm_if0 hc hf
      refine lv_iconst (v := 0) hx hb dX4_tesseraeAhead_25 (by decide) ?_
      exact mm_ire C hR hS hr ((Option.some.inj hf)) rfl dX4_tesseraeAhead_26
def ff_X4_goodTesseraeAhead_j41 (M : mm_M) (x0 : Nat) (x1 : Int32) (x2 : Int32) (x3 : Int32) (x4 : Int32) (x5 : Int32) (x6 : Int32) : Option ((Int32 × Int32 × Int32) ⊕ (Int32 × Int32 × Int32)) := some (.inl (x4, (x5 + (x1 + x2)), (x6 + (1 : Int32))))
def ff_X4_goodTesseraeAhead_l19 (M : mm_M) (x0 : Nat) (x1 : Int32) (x2 : Int32) (x3 : Int32) (x4 : Int32) (x5 : Int32) (x6 : Int32) : Option ((Int32 × Int32 × Int32) ⊕ (Int32 × Int32 × Int32)) := if x3 ≤ x6 then (some (.inr (x4, x5, x6))) else (Option.bind (mm_ck 4 M x0) fun u4 => Option.bind (ff_X4_hasFlawIn M x0 x5 (x5 + x1)) fun v5 => if v5 = (0 : Int32) then (ff_X4_goodTesseraeAhead_j41 M x0 x1 x2 x3 (x4 + (1 : Int32)) x5 x6) else (ff_X4_goodTesseraeAhead_j41 M x0 x1 x2 x3 x4 x5 x6))
def ff_X4_goodTesseraeAhead (M : mm_M) (x0 : Nat) (x1 : Int32) (x2 : Int32) : Option Int32 := Option.bind (mm_ck 4 M x0) fun u1 => Option.bind (ff_X4_tesseraeAhead M x0 x1 x2) fun v2 => Option.bind (mm_gI 4 M x0 4) fun v3 => Option.bind (mm_it (mm_u3 (ff_X4_goodTesseraeAhead_l19 M x0 x1 x2 v2)) mm_fu ((0 : Int32), v3, (0 : Int32))) fun e6 => mm_u3 (fun x4_7 x5_8 x6_9 => some x4_7) e6
def rm_X4_goodTesseraeAhead : Room := { frames := 1, cells := 0, slots := 0, locals := 24 }
set_option maxHeartbeats 4000000 in
set_option maxRecDepth 100000 in
theorem jj_X4_goodTesseraeAhead (l : Launch) (g : mm_G) (A : Nat → Prop) (M : mm_M) (x0 : Nat) (x1 : Int32) (x2 : Int32) (r : Int32) (hf : ff_X4_goodTesseraeAhead M x0 x1 x2 = some r) : Met l yX4_goodTesseraeAhead (mm_ws yX4_goodTesseraeAhead cX4_goodTesseraeAhead 7 (Option.some Jvm.ClassFile.FieldType.int)) rm_X4_goodTesseraeAhead (va_Pc [.ref x0, .int x1, .int x2] (mm_B g A M)) (mm_Ti g A r M) 0 0 A := by
  refine mm_met (g := g) (lv := [(0, .ref x0), (1, .int x1), (2, .int x2)]) (fun U h => h.2) (by decide +kernel) (Nat.le_of_ble_eq_true rfl) rfl ?_
  intro p e s m args below meth c ls C hr hnm hB hl
  obtain ⟨hR, hK⟩ := hB
  have hx := C.1
  have hb := C.2.1
  suffices hmain : ∀ (H : Heap) (locs : List Loc), mm_R g A M H → va_S A s.heap H locs → W p l e rm_X4_goodTesseraeAhead s m args below meth c H locs 0 0 (MQ below (mm_Ti g A r M) args s 0 0 A) (F0 m 0 ls []) from hmain _ _ hR va_S.rf
  clear hR
  intro H locs hR hS
  have L19 : ∀ (x0 : Nat) (x1 : Int32) (x2 : Int32) (x3 : Int32) (e1 : Int32 × Int32 × Int32) (hX : ∀ (x4 : Int32) (x5 : Int32) (x6 : Int32), e1 = (x4, x5, x6) → ∀ (H : Heap) (locs : List Loc) (ls : Array Slot), mm_R g A M H → va_S A s.heap H locs → lv_has ls 7 [(4, .int x4)] → W p l e rm_X4_goodTesseraeAhead s m args below meth c H locs 0 0 (MQ below (mm_Ti g A r M) args s 0 0 A) (F0 m 55 ls [])) (n : Nat) (x4 : Int32) (x5 : Int32) (x6 : Int32), mm_it (mm_u3 (ff_X4_goodTesseraeAhead_l19 M x0 x1 x2 x3)) n (x4, x5, x6) = some e1 → ∀ (H : Heap) (locs : List Loc) (ls : Array Slot), mm_R g A M H → va_S A s.heap H locs → lv_has ls 7 [(0, .ref x0), (1, .int x1), (2, .int x2), (3, .int x3), (4, .int x4), (5, .int x5), (6, .int x6)] → W p l e rm_X4_goodTesseraeAhead s m args below meth c H locs 0 0 (MQ below (mm_Ti g A r M) args s 0 0 A) (F0 m 19 ls []) := by
    intro x0 x1 x2 x3 e1 hX n x4 x5 x6 hit
    refine mm_itW (Hd := fun st => ∀ (H : Heap) (locs : List Loc) (ls : Array Slot), mm_R g A M H → va_S A s.heap H locs → lv_has ls 7 [(0, .ref x0), (1, .int x1), (2, .int x2), (3, .int x3), (4, .int st.1), (5, .int st.2.1), (6, .int st.2.2)] → W p l e rm_X4_goodTesseraeAhead s m args below meth c H locs 0 0 (MQ below (mm_Ti g A r M) args s 0 0 A) (F0 m 19 ls [])) (fun st y hf hin hout => ?_) n (x4, x5, x6) hit
    obtain ⟨x4, x5, x6⟩ := st
    have hf := mm_u3e hf
    have J41 : ∀ (x4 : Int32) (x5 : Int32) (x6 : Int32) (H : Heap) (locs : List Loc) (ls : Array Slot), mm_R g A M H → va_S A s.heap H locs → lv_has ls 7 [(0, .ref x0), (1, .int x1), (2, .int x2), (3, .int x3), (4, .int x4), (5, .int x5), (6, .int x6)] → ff_X4_goodTesseraeAhead_j41 M x0 x1 x2 x3 x4 x5 x6 = some y → W p l e rm_X4_goodTesseraeAhead s m args below meth c H locs 0 0 (MQ below (mm_Ti g A r M) args s 0 0 A) (F0 m 41 ls []) := by
      intro x4 x5 x6 H locs ls hR hS hl hf
      unfold ff_X4_goodTesseraeAhead_j41 at hf
      refine lv_iload hx hb dX4_goodTesseraeAhead_41 (lv_at hl 5 rfl) ?_
      refine lv_iload_n hx hb dX4_goodTesseraeAhead_43 rfl (lv_at hl 1 rfl) ?_
      refine lv_iload_n hx hb dX4_goodTesseraeAhead_44 rfl (lv_at hl 2 rfl) ?_
      refine lv_iadd hx hb dX4_goodTesseraeAhead_45 ?_
      refine lv_iadd hx hb dX4_goodTesseraeAhead_46 ?_
      refine lv_istore (lv' := [(5, .int (x5 + (x1 + x2))), (0, .ref x0), (1, .int x1), (2, .int x2), (3, .int x3), (4, .int x4), (6, .int x6)]) hx hb dX4_goodTesseraeAhead_47 hl (by decide) rfl (fun ls hl => ?_)
      refine lv_iinc (v := (x6 + (1 : Int32))) (lv' := [(6, .int (x6 + (1 : Int32))), (5, .int (x5 + (x1 + x2))), (0, .ref x0), (1, .int x1), (2, .int x2), (3, .int x3), (4, .int x4)]) hx hb dX4_goodTesseraeAhead_49 hl (k := 6) rfl rfl (by decide) rfl (fun ls hl => ?_)
      refine lv_goto (tgt := 19) hx hb dX4_goodTesseraeAhead_52 (by decide) ?_
      exact hin _ (Option.some.inj hf).symm H locs ls hR hS (lv_sub hl [2, 3, 4, 5, 6, 1, 0] rfl)
    intro H locs ls hR hS hl
    unfold ff_X4_goodTesseraeAhead_l19 at hf
    refine lv_iload hx hb dX4_goodTesseraeAhead_19 (lv_at hl 6 rfl) ?_
    refine lv_iload_n hx hb dX4_goodTesseraeAhead_21 rfl (lv_at hl 3 rfl) ?_
    refine lv_icmp_ge (tgt := 55) hx hb dX4_goodTesseraeAhead_22 (by decide) (fun hc => ?_) (fun hc => ?_)
    · have hf := mm_if1 hc hf
      exact hX _ _ _ (hout _ (Option.some.inj hf).symm).symm H locs ls hR hS (lv_sub hl [4] rfl)
    · have hf := mm_if0 hc hf
      refine lv_aload_n hx hb dX4_goodTesseraeAhead_25 rfl (lv_at hl 0 rfl) ?_
      refine lv_iload hx hb dX4_goodTesseraeAhead_26 (lv_at hl 5 rfl) ?_
      refine lv_iload hx hb dX4_goodTesseraeAhead_28 (lv_at hl 5 rfl) ?_
      refine lv_iload_n hx hb dX4_goodTesseraeAhead_30 rfl (lv_at hl 1 rfl) ?_
      refine lv_iadd hx hb dX4_goodTesseraeAhead_31 ?_
      obtain ⟨u4, eu4, hf⟩ := mm_bd hf
      obtain ⟨v5, ev5, hf⟩ := mm_bd hf
      refine mm_callVi (As := [.int x5, .int (x5 + x1)]) (rest := []) C hR hS hl.1 vs_X4_41 eu4 (jj_X4_hasFlawIn l g A M x0 x5 (x5 + x1) v5 ev5) ⟨rfl, rfl, (Nat.le_of_ble_eq_true rfl), (Nat.le_of_ble_eq_true rfl)⟩ rfl (Nat.le_of_ble_eq_true rfl) ⟨Nat.zero_le _, Nat.zero_le _⟩ rfl dX4_goodTesseraeAhead_32 (fun H locs hR hS => ?_)
      refine lv_if_ne (tgt := 41) hx hb dX4_goodTesseraeAhead_35 (by decide) (fun hc => ?_) (fun hc => ?_)
      · have hf := mm_if0 hc hf
        exact J41 x4 x5 x6 H locs ls hR hS (lv_sub hl [0, 1, 2, 3, 4, 5, 6] rfl) hf
      · have hf := mm_if1 hc hf
        refine lv_iinc (v := (x4 + (1 : Int32))) (lv' := [(4, .int (x4 + (1 : Int32))), (0, .ref x0), (1, .int x1), (2, .int x2), (3, .int x3), (5, .int x5), (6, .int x6)]) hx hb dX4_goodTesseraeAhead_38 hl (k := 4) rfl rfl (by decide) rfl (fun ls hl => ?_)
        exact J41 (x4 + (1 : Int32)) x5 x6 H locs ls hR hS (lv_sub hl [1, 2, 3, 4, 0, 5, 6] rfl) hf
  unfold ff_X4_goodTesseraeAhead at hf
  refine lv_aload_n hx hb dX4_goodTesseraeAhead_0 rfl (lv_at hl 0 rfl) ?_
  refine lv_iload_n hx hb dX4_goodTesseraeAhead_1 rfl (lv_at hl 1 rfl) ?_
  refine lv_iload_n hx hb dX4_goodTesseraeAhead_2 rfl (lv_at hl 2 rfl) ?_
  obtain ⟨u1, eu1, hf⟩ := mm_bd hf
  obtain ⟨v2, ev2, hf⟩ := mm_bd hf
  refine mm_callVi (As := [.int x1, .int x2]) (rest := []) C hR hS hl.1 vs_X4_37 eu1 (jj_X4_tesseraeAhead l g A M x0 x1 x2 v2 ev2) ⟨rfl, rfl, (Nat.le_of_ble_eq_true rfl), (Nat.le_of_ble_eq_true rfl)⟩ rfl (Nat.le_of_ble_eq_true rfl) ⟨Nat.zero_le _, Nat.zero_le _⟩ rfl dX4_goodTesseraeAhead_3 (fun H locs hR hS => ?_)
  refine lv_istore_n (lv' := [(3, .int v2), (0, .ref x0), (1, .int x1), (2, .int x2)]) hx hb dX4_goodTesseraeAhead_6 rfl hl (by decide) rfl (fun ls hl => ?_)
  refine lv_iconst (v := 0) hx hb dX4_goodTesseraeAhead_7 (by decide) ?_
  refine lv_istore (lv' := [(4, .int (0 : Int32)), (3, .int v2), (0, .ref x0), (1, .int x1), (2, .int x2)]) hx hb dX4_goodTesseraeAhead_8 hl (by decide) rfl (fun ls hl => ?_)
  refine lv_aload_n hx hb dX4_goodTesseraeAhead_10 rfl (lv_at hl 2 rfl) ?_
  obtain ⟨v3, ev3, hf⟩ := mm_bd hf
  refine mm_getI C hR fs_X4_22 ev3 dX4_goodTesseraeAhead_11 ?_
  refine lv_istore (lv' := [(5, .int v3), (4, .int (0 : Int32)), (3, .int v2), (0, .ref x0), (1, .int x1), (2, .int x2)]) hx hb dX4_goodTesseraeAhead_14 hl (by decide) rfl (fun ls hl => ?_)
  refine lv_iconst (v := 0) hx hb dX4_goodTesseraeAhead_16 (by decide) ?_
  refine lv_istore (lv' := [(6, .int (0 : Int32)), (5, .int v3), (4, .int (0 : Int32)), (3, .int v2), (0, .ref x0), (1, .int x1), (2, .int x2)]) hx hb dX4_goodTesseraeAhead_17 hl (by decide) rfl (fun ls hl => ?_)
  obtain ⟨e6, he6, hf⟩ := mm_bd hf
  refine L19 x0 x1 x2 v2 e6 (fun x4_7 x5_8 x6_9 he => ?_) _ (0 : Int32) v3 (0 : Int32) he6 H locs ls hR hS (lv_sub hl [4, 5, 6, 3, 2, 1, 0] rfl)
  subst he
  intro H locs ls hR hS hl
  have hf := mm_u3e hf
  refine lv_iload hx hb dX4_goodTesseraeAhead_55 (lv_at hl 0 rfl) ?_
  exact mm_ire C hR hS hr ((Option.some.inj hf)) rfl dX4_goodTesseraeAhead_57
def ff_X4_givesGood_l16 (M : mm_M) (x0 : Nat) (x1 : Int32) (x2 : Int32) (x3 : Int32) (x4 : Int32) (x5 : Int32) : Option ((Int32 × Int32) ⊕ ((Int32 × Int32) ⊕ Int32)) := if x3 ≤ x5 then (some (.inr (.inl (x4, x5)))) else (Option.bind (mm_ck 4 M x0) fun u4 => Option.bind (ff_X4_hasFlawIn M x0 x4 (x4 + x1)) fun v5 => if v5 = (0 : Int32) then (some (.inr (.inr (1 : Int32)))) else (some (.inl ((x4 + (x1 + x2)), (x5 + (1 : Int32))))))
def ff_X4_givesGood (M : mm_M) (x0 : Nat) (x1 : Int32) (x2 : Int32) : Option Int32 := Option.bind (mm_ck 4 M x0) fun u1 => Option.bind (ff_X4_tesseraeAhead M x0 x1 x2) fun v2 => Option.bind (mm_gI 4 M x0 4) fun v3 => Option.bind (mm_it (mm_u2 (ff_X4_givesGood_l16 M x0 x1 x2 v2)) mm_fu (v3, (0 : Int32))) fun e6 => Sum.elim (mm_u2 (fun x4_7 x5_8 => some (0 : Int32))) some e6
def rm_X4_givesGood : Room := { frames := 1, cells := 0, slots := 0, locals := 24 }
set_option maxHeartbeats 4000000 in
set_option maxRecDepth 100000 in
theorem jj_X4_givesGood (l : Launch) (g : mm_G) (A : Nat → Prop) (M : mm_M) (x0 : Nat) (x1 : Int32) (x2 : Int32) (r : Int32) (hf : ff_X4_givesGood M x0 x1 x2 = some r) : Met l yX4_givesGood (mm_ws yX4_givesGood cX4_givesGood 6 (Option.some Jvm.ClassFile.FieldType.boolean)) rm_X4_givesGood (va_Pc [.ref x0, .int x1, .int x2] (mm_B g A M)) (mm_Ti g A r M) 0 0 A := by
  refine mm_met (g := g) (lv := [(0, .ref x0), (1, .int x1), (2, .int x2)]) (fun U h => h.2) (by decide +kernel) (Nat.le_of_ble_eq_true rfl) rfl ?_
  intro p e s m args below meth c ls C hr hnm hB hl
  obtain ⟨hR, hK⟩ := hB
  have hx := C.1
  have hb := C.2.1
  suffices hmain : ∀ (H : Heap) (locs : List Loc), mm_R g A M H → va_S A s.heap H locs → W p l e rm_X4_givesGood s m args below meth c H locs 0 0 (MQ below (mm_Ti g A r M) args s 0 0 A) (F0 m 0 ls []) from hmain _ _ hR va_S.rf
  clear hR
  intro H locs hR hS
  have L16 : ∀ (x0 : Nat) (x1 : Int32) (x2 : Int32) (x3 : Int32) (e1 : (Int32 × Int32) ⊕ Int32) (hX : ∀ (x4 : Int32) (x5 : Int32), e1 = .inl (x4, x5) → ∀ (H : Heap) (locs : List Loc) (ls : Array Slot), mm_R g A M H → va_S A s.heap H locs → lv_has ls 6 [] → W p l e rm_X4_givesGood s m args below meth c H locs 0 0 (MQ below (mm_Ti g A r M) args s 0 0 A) (F0 m 51 ls [])) (hY : ∀ (v : Int32), e1 = .inr v → v = r) (n : Nat) (x4 : Int32) (x5 : Int32), mm_it (mm_u2 (ff_X4_givesGood_l16 M x0 x1 x2 x3)) n (x4, x5) = some e1 → ∀ (H : Heap) (locs : List Loc) (ls : Array Slot), mm_R g A M H → va_S A s.heap H locs → lv_has ls 6 [(0, .ref x0), (1, .int x1), (2, .int x2), (3, .int x3), (4, .int x4), (5, .int x5)] → W p l e rm_X4_givesGood s m args below meth c H locs 0 0 (MQ below (mm_Ti g A r M) args s 0 0 A) (F0 m 16 ls []) := by
    intro x0 x1 x2 x3 e1 hX hY n x4 x5 hit
    refine mm_itW (Hd := fun st => ∀ (H : Heap) (locs : List Loc) (ls : Array Slot), mm_R g A M H → va_S A s.heap H locs → lv_has ls 6 [(0, .ref x0), (1, .int x1), (2, .int x2), (3, .int x3), (4, .int st.1), (5, .int st.2)] → W p l e rm_X4_givesGood s m args below meth c H locs 0 0 (MQ below (mm_Ti g A r M) args s 0 0 A) (F0 m 16 ls [])) (fun st y hf hin hout => ?_) n (x4, x5) hit
    obtain ⟨x4, x5⟩ := st
    have hf := mm_u2e hf
    intro H locs ls hR hS hl
    unfold ff_X4_givesGood_l16 at hf
    refine lv_iload hx hb dX4_givesGood_16 (lv_at hl 5 rfl) ?_
    refine lv_iload_n hx hb dX4_givesGood_18 rfl (lv_at hl 3 rfl) ?_
    refine lv_icmp_ge (tgt := 51) hx hb dX4_givesGood_19 (by decide) (fun hc => ?_) (fun hc => ?_)
    · have hf := mm_if1 hc hf
      exact hX _ _ (hout _ (Option.some.inj hf).symm).symm H locs ls hR hS (lv_sub hl [] rfl)
    · have hf := mm_if0 hc hf
      refine lv_aload_n hx hb dX4_givesGood_22 rfl (lv_at hl 0 rfl) ?_
      refine lv_iload hx hb dX4_givesGood_23 (lv_at hl 4 rfl) ?_
      refine lv_iload hx hb dX4_givesGood_25 (lv_at hl 4 rfl) ?_
      refine lv_iload_n hx hb dX4_givesGood_27 rfl (lv_at hl 1 rfl) ?_
      refine lv_iadd hx hb dX4_givesGood_28 ?_
      obtain ⟨u4, eu4, hf⟩ := mm_bd hf
      obtain ⟨v5, ev5, hf⟩ := mm_bd hf
      refine mm_callVi (As := [.int x4, .int (x4 + x1)]) (rest := []) C hR hS hl.1 vs_X4_41 eu4 (jj_X4_hasFlawIn l g A M x0 x4 (x4 + x1) v5 ev5) ⟨rfl, rfl, (Nat.le_of_ble_eq_true rfl), (Nat.le_of_ble_eq_true rfl)⟩ rfl (Nat.le_of_ble_eq_true rfl) ⟨Nat.zero_le _, Nat.zero_le _⟩ rfl dX4_givesGood_29 (fun H locs hR hS => ?_)
      refine lv_if_ne (tgt := 37) hx hb dX4_givesGood_32 (by decide) (fun hc => ?_) (fun hc => ?_)
      · have hf := mm_if0 hc hf
        refine lv_iload hx hb dX4_givesGood_37 (lv_at hl 4 rfl) ?_
        refine lv_iload_n hx hb dX4_givesGood_39 rfl (lv_at hl 1 rfl) ?_
        refine lv_iload_n hx hb dX4_givesGood_40 rfl (lv_at hl 2 rfl) ?_
        refine lv_iadd hx hb dX4_givesGood_41 ?_
        refine lv_iadd hx hb dX4_givesGood_42 ?_
        refine lv_istore (lv' := [(4, .int (x4 + (x1 + x2))), (0, .ref x0), (1, .int x1), (2, .int x2), (3, .int x3), (5, .int x5)]) hx hb dX4_givesGood_43 hl (by decide) rfl (fun ls hl => ?_)
        refine lv_iinc (v := (x5 + (1 : Int32))) (lv' := [(5, .int (x5 + (1 : Int32))), (4, .int (x4 + (x1 + x2))), (0, .ref x0), (1, .int x1), (2, .int x2), (3, .int x3)]) hx hb dX4_givesGood_45 hl (k := 5) rfl rfl (by decide) rfl (fun ls hl => ?_)
        refine lv_goto (tgt := 16) hx hb dX4_givesGood_48 (by decide) ?_
        exact hin _ (Option.some.inj hf).symm H locs ls hR hS (lv_sub hl [2, 3, 4, 5, 1, 0] rfl)
      · have hf := mm_if1 hc hf
        refine lv_iconst (v := 1) hx hb dX4_givesGood_35 (by decide) ?_
        exact mm_zre C hR hS hr (Or.inr rfl) ((hY _ (hout _ (Option.some.inj hf).symm).symm)) rfl dX4_givesGood_36
  unfold ff_X4_givesGood at hf
  refine lv_aload_n hx hb dX4_givesGood_0 rfl (lv_at hl 0 rfl) ?_
  refine lv_iload_n hx hb dX4_givesGood_1 rfl (lv_at hl 1 rfl) ?_
  refine lv_iload_n hx hb dX4_givesGood_2 rfl (lv_at hl 2 rfl) ?_
  obtain ⟨u1, eu1, hf⟩ := mm_bd hf
  obtain ⟨v2, ev2, hf⟩ := mm_bd hf
  refine mm_callVi (As := [.int x1, .int x2]) (rest := []) C hR hS hl.1 vs_X4_37 eu1 (jj_X4_tesseraeAhead l g A M x0 x1 x2 v2 ev2) ⟨rfl, rfl, (Nat.le_of_ble_eq_true rfl), (Nat.le_of_ble_eq_true rfl)⟩ rfl (Nat.le_of_ble_eq_true rfl) ⟨Nat.zero_le _, Nat.zero_le _⟩ rfl dX4_givesGood_3 (fun H locs hR hS => ?_)
  refine lv_istore_n (lv' := [(3, .int v2), (0, .ref x0), (1, .int x1), (2, .int x2)]) hx hb dX4_givesGood_6 rfl hl (by decide) rfl (fun ls hl => ?_)
  refine lv_aload_n hx hb dX4_givesGood_7 rfl (lv_at hl 1 rfl) ?_
  obtain ⟨v3, ev3, hf⟩ := mm_bd hf
  refine mm_getI C hR fs_X4_22 ev3 dX4_givesGood_8 ?_
  refine lv_istore (lv' := [(4, .int v3), (3, .int v2), (0, .ref x0), (1, .int x1), (2, .int x2)]) hx hb dX4_givesGood_11 hl (by decide) rfl (fun ls hl => ?_)
  refine lv_iconst (v := 0) hx hb dX4_givesGood_13 (by decide) ?_
  refine lv_istore (lv' := [(5, .int (0 : Int32)), (4, .int v3), (3, .int v2), (0, .ref x0), (1, .int x1), (2, .int x2)]) hx hb dX4_givesGood_14 hl (by decide) rfl (fun ls hl => ?_)
  obtain ⟨e6, he6, hf⟩ := mm_bd hf
  refine L16 x0 x1 x2 v2 e6 (fun x4_7 x5_8 he => ?_) (fun v he => by subst he; exact Option.some.inj (mm_sr hf)) _ v3 (0 : Int32) he6 H locs ls hR hS (lv_sub hl [3, 4, 5, 2, 1, 0] rfl)
  subst he
  intro H locs ls hR hS hl
  have hf := mm_sl hf
  have hf := mm_u2e hf
  refine lv_iconst (v := 0) hx hb dX4_givesGood_51 (by decide) ?_
  exact mm_zre C hR hS hr (Or.inl rfl) ((Option.some.inj hf)) rfl dX4_givesGood_52
end
