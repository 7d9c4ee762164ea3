-- ===== PART A: goes FIRST, ahead of the names: the tables' words, and 'selects' of the private methods out of them =====
/-- a private method of a class that the tables say can be made, by its rows of tables_1 -/
def lw_okq (q : MethodName × Nat) : Prop := (q.1.cls ≠ "java/lang/invoke/MethodHandle" ∧ q.1.cls ≠ "java/lang/invoke/VarHandle") ∧ Cond.instantiable q.1.cls q.2 ∈ tables_1 ∧ Cond.privateMethod q.1 ∈ tables_1 ∧ Cond.instanceMethod q.1 ∈ tables_1
theorem lw_p0 : lw_okq (⟨"MosaicFloor$History", "dropOldest", "()V"⟩, 2) := ⟨⟨by decide +kernel, by decide +kernel⟩, List.mem_of_getElem? (i := 156) (by decide +kernel), List.mem_of_getElem? (i := 215) (by decide +kernel), List.mem_of_getElem? (i := 216) (by decide +kernel)⟩
theorem lw_p1 : lw_okq (⟨"MosaicFloor", "changeSize", "(I)I"⟩, 4) := ⟨⟨by decide +kernel, by decide +kernel⟩, List.mem_of_getElem? (i := 12) (by decide +kernel), List.mem_of_getElem? (i := 246) (by decide +kernel), List.mem_of_getElem? (i := 247) (by decide +kernel)⟩
theorem lw_p2 : lw_okq (⟨"MosaicFloor", "changeLoss", "(I)I"⟩, 4) := ⟨⟨by decide +kernel, by decide +kernel⟩, List.mem_of_getElem? (i := 12) (by decide +kernel), List.mem_of_getElem? (i := 259) (by decide +kernel), List.mem_of_getElem? (i := 260) (by decide +kernel)⟩
theorem lw_p3 : lw_okq (⟨"MosaicFloor$Plan", "halfOfBorder", "()I"⟩, 6) := ⟨⟨by decide +kernel, by decide +kernel⟩, List.mem_of_getElem? (i := 26) (by decide +kernel), List.mem_of_getElem? (i := 301) (by decide +kernel), List.mem_of_getElem? (i := 302) (by decide +kernel)⟩
theorem lw_p4 : lw_okq (⟨"MosaicFloor$Plan", "wantedInBorder", "(I)I"⟩, 6) := ⟨⟨by decide +kernel, by decide +kernel⟩, List.mem_of_getElem? (i := 26) (by decide +kernel), List.mem_of_getElem? (i := 305) (by decide +kernel), List.mem_of_getElem? (i := 306) (by decide +kernel)⟩
theorem lw_p5 : lw_okq (⟨"MosaicFloor$Plan", "cellsOfWholePatterns", "(I)I"⟩, 6) := ⟨⟨by decide +kernel, by decide +kernel⟩, List.mem_of_getElem? (i := 26) (by decide +kernel), List.mem_of_getElem? (i := 316) (by decide +kernel), List.mem_of_getElem? (i := 317) (by decide +kernel)⟩
theorem lw_p6 : lw_okq (⟨"MosaicFloor", "countOfPlan", "(I)I"⟩, 4) := ⟨⟨by decide +kernel, by decide +kernel⟩, List.mem_of_getElem? (i := 12) (by decide +kernel), List.mem_of_getElem? (i := 343) (by decide +kernel), List.mem_of_getElem? (i := 344) (by decide +kernel)⟩
theorem lw_p7 : lw_okq (⟨"MosaicFloor$Plan", "patternHasOneShade", "()Z"⟩, 6) := ⟨⟨by decide +kernel, by decide +kernel⟩, List.mem_of_getElem? (i := 26) (by decide +kernel), List.mem_of_getElem? (i := 355) (by decide +kernel), List.mem_of_getElem? (i := 356) (by decide +kernel)⟩
theorem lw_p8 : lw_okq (⟨"MosaicFloor", "countOfWork", "(I)I"⟩, 4) := ⟨⟨by decide +kernel, by decide +kernel⟩, List.mem_of_getElem? (i := 12) (by decide +kernel), List.mem_of_getElem? (i := 360) (by decide +kernel), List.mem_of_getElem? (i := 361) (by decide +kernel)⟩
theorem lw_p9 : lw_okq (⟨"MosaicFloor", "account", "(I)I"⟩, 4) := ⟨⟨by decide +kernel, by decide +kernel⟩, List.mem_of_getElem? (i := 12) (by decide +kernel), List.mem_of_getElem? (i := 381) (by decide +kernel), List.mem_of_getElem? (i := 382) (by decide +kernel)⟩
theorem lw_p10 : lw_okq (⟨"MosaicFloor$Stock", "atHandOf", "(I)I"⟩, 9) := ⟨⟨by decide +kernel, by decide +kernel⟩, List.mem_of_getElem? (i := 65) (by decide +kernel), List.mem_of_getElem? (i := 514) (by decide +kernel), List.mem_of_getElem? (i := 515) (by decide +kernel)⟩
theorem lw_p11 : lw_okq (⟨"MosaicFloor$Stock", "firstStripGivingOrNull", "(I)LMosaicFloor$Strip;"⟩, 9) := ⟨⟨by decide +kernel, by decide +kernel⟩, List.mem_of_getElem? (i := 65) (by decide +kernel), List.mem_of_getElem? (i := 518) (by decide +kernel), List.mem_of_getElem? (i := 519) (by decide +kernel)⟩
theorem lw_p12 : lw_okq (⟨"MosaicFloor$State", "putAt", "(III)V"⟩, 4) := ⟨⟨by decide +kernel, by decide +kernel⟩, List.mem_of_getElem? (i := 20) (by decide +kernel), List.mem_of_getElem? (i := 528) (by decide +kernel), List.mem_of_getElem? (i := 529) (by decide +kernel)⟩
def lw_privs_1 : List (MethodName × Nat) := [(⟨"MosaicFloor$History", "dropOldest", "()V"⟩, 2), (⟨"MosaicFloor", "changeSize", "(I)I"⟩, 4), (⟨"MosaicFloor", "changeLoss", "(I)I"⟩, 4), (⟨"MosaicFloor$Plan", "halfOfBorder", "()I"⟩, 6), (⟨"MosaicFloor$Plan", "wantedInBorder", "(I)I"⟩, 6), (⟨"MosaicFloor$Plan", "cellsOfWholePatterns", "(I)I"⟩, 6), (⟨"MosaicFloor", "countOfPlan", "(I)I"⟩, 4), (⟨"MosaicFloor$Plan", "patternHasOneShade", "()Z"⟩, 6), (⟨"MosaicFloor", "countOfWork", "(I)I"⟩, 4), (⟨"MosaicFloor", "account", "(I)I"⟩, 4), (⟨"MosaicFloor$Stock", "atHandOf", "(I)I"⟩, 9), (⟨"MosaicFloor$Stock", "firstStripGivingOrNull", "(I)LMosaicFloor$Strip;"⟩, 9), (⟨"MosaicFloor$State", "putAt", "(III)V"⟩, 4)]
theorem lw_r1 : ∀ q ∈ lw_privs_1, lw_okq q := List.forall_mem_cons.mpr ⟨lw_p0, List.forall_mem_cons.mpr ⟨lw_p1, List.forall_mem_cons.mpr ⟨lw_p2, List.forall_mem_cons.mpr ⟨lw_p3, List.forall_mem_cons.mpr ⟨lw_p4, List.forall_mem_cons.mpr ⟨lw_p5, List.forall_mem_cons.mpr ⟨lw_p6, List.forall_mem_cons.mpr ⟨lw_p7, List.forall_mem_cons.mpr ⟨lw_p8, List.forall_mem_cons.mpr ⟨lw_p9, List.forall_mem_cons.mpr ⟨lw_p10, List.forall_mem_cons.mpr ⟨lw_p11, List.forall_mem_cons.mpr ⟨lw_p12, fun _ h => absurd h List.not_mem_nil⟩⟩⟩⟩⟩⟩⟩⟩⟩⟩⟩⟩⟩
def lw_privs : List (MethodName × Nat) := lw_privs_1
def lw_tbl : List Cond := k2_sels lw_privs ++ tables_1
theorem lw_privs_ok : ∀ q ∈ lw_privs, lw_okq q := lw_r1

-- names, field tables (as the task prints them)
def RX0 : String := "MosaicFloor$History"
def TX0 : u_T := fun k => match k with
  | 0 => ("MosaicFloor$History", "states", "[LMosaicFloor$State;", true)
  | _ => ("MosaicFloor$History", "used", "I", false)
def tyX0 : Nat → FieldType := fun k => match k with
  | 0 => .array (.object "MosaicFloor$State")
  | _ => .int
abbrev wsX00 : List Cond := u_ws RX0 TX0 2
theorem nmX0 : ∀ a, a < 2 → ∀ b, b < 2 → a ≠ b → (TX0 a).2.1 ≠ (TX0 b).2.1 := by decide +kernel
theorem tyX0_ok : ∀ k, k < 2 → parseFieldDescriptor (TX0 k).2.2.1 = some (tyX0 k) := by decide +kernel
abbrev cX0_init : ByteArray := prog_2_method_1_code
def yX0_init : MethodName := ⟨RX0, "<init>", "()V"⟩
abbrev cX0_states : ByteArray := prog_2_method_2_code
def yX0_states : MethodName := ⟨RX0, "states", "()I"⟩
abbrev cX0_keep : ByteArray := prog_2_method_3_code
def yX0_keep : MethodName := ⟨RX0, "keep", "(LMosaicFloor$State;)V"⟩
abbrev cX0_dropOldest : ByteArray := prog_2_method_4_code
def yX0_dropOldest : MethodName := ⟨RX0, "dropOldest", "()V"⟩
abbrev cX0_restore : ByteArray := prog_2_method_5_code
def yX0_restore : MethodName := ⟨RX0, "restore", "(LMosaicFloor$State;)V"⟩
def RX1 : String := "MosaicFloor$Plan"
def TX1 : u_T := fun k => match k with
  | 0 => ("MosaicFloor$Plan", "fieldShades", "[I", true)
  | 1 => ("MosaicFloor$Plan", "patternShades", "[I", true)
  | 2 => ("MosaicFloor$Plan", "patternLength", "I", false)
  | 3 => ("MosaicFloor$Plan", "way", "I", false)
  | 4 => ("MosaicFloor$Plan", "columns", "I", false)
  | _ => ("MosaicFloor$Plan", "rows", "I", false)
def tyX1 : Nat → FieldType := fun k => match k with
  | 0 => .array .int
  | 1 => .array .int
  | 2 => .int
  | 3 => .int
  | 4 => .int
  | _ => .int
abbrev wsX10 : List Cond := u_ws RX1 TX1 6
theorem nmX1 : ∀ a, a < 6 → ∀ b, b < 6 → a ≠ b → (TX1 a).2.1 ≠ (TX1 b).2.1 := by decide +kernel
theorem tyX1_ok : ∀ k, k < 6 → parseFieldDescriptor (TX1 k).2.2.1 = some (tyX1 k) := by decide +kernel
abbrev cX1_init : ByteArray := prog_3_method_1_code
def yX1_init : MethodName := ⟨RX1, "<init>", "()V"⟩
abbrev cX1_begin : ByteArray := prog_3_method_2_code
def yX1_begin : MethodName := ⟨RX1, "begin", "(II)V"⟩
abbrev cX1_copyFrom : ByteArray := prog_3_method_3_code
def yX1_copyFrom : MethodName := ⟨RX1, "copyFrom", "(LMosaicFloor$Plan;)V"⟩
abbrev cX1_takePattern : ByteArray := prog_3_method_4_code
def yX1_takePattern : MethodName := ⟨RX1, "takePattern", "(LMosaicFloor$Text;)I"⟩
abbrev cX1_hasCell : ByteArray := prog_3_method_5_code
def yX1_hasCell : MethodName := ⟨RX1, "hasCell", "(II)Z"⟩
abbrev cX1_isBorder : ByteArray := prog_3_method_6_code
def yX1_isBorder : MethodName := ⟨RX1, "isBorder", "(II)Z"⟩
abbrev cX1_borderCells : ByteArray := prog_3_method_7_code
def yX1_borderCells : MethodName := ⟨RX1, "borderCells", "()I"⟩
abbrev cX1_halfOfBorder : ByteArray := prog_3_method_8_code
def yX1_halfOfBorder : MethodName := ⟨RX1, "halfOfBorder", "()I"⟩
abbrev cX1_borderNumberAt : ByteArray := prog_3_method_9_code
def yX1_borderNumberAt : MethodName := ⟨RX1, "borderNumberAt", "(II)I"⟩
abbrev cX1_columnOf : ByteArray := prog_3_method_10_code
def yX1_columnOf : MethodName := ⟨RX1, "columnOf", "(I)I"⟩
abbrev cX1_rowOf : ByteArray := prog_3_method_11_code
def yX1_rowOf : MethodName := ⟨RX1, "rowOf", "(I)I"⟩
abbrev cX1_wantedAt : ByteArray := prog_3_method_12_code
def yX1_wantedAt : MethodName := ⟨RX1, "wantedAt", "(II)I"⟩
abbrev cX1_wantInField : ByteArray := prog_3_method_13_code
def yX1_wantInField : MethodName := ⟨RX1, "wantInField", "(III)V"⟩
abbrev cX1_wantedInBorder : ByteArray := prog_3_method_14_code
def yX1_wantedInBorder : MethodName := ⟨RX1, "wantedInBorder", "(I)I"⟩
abbrev cX1_cellsOfWholePatterns : ByteArray := prog_3_method_15_code
def yX1_cellsOfWholePatterns : MethodName := ⟨RX1, "cellsOfWholePatterns", "(I)I"⟩
abbrev cX1_patternShade : ByteArray := prog_3_method_16_code
def yX1_patternShade : MethodName := ⟨RX1, "patternShade", "(I)I"⟩
abbrev cX1_borderMeets : ByteArray := prog_3_method_17_code
def yX1_borderMeets : MethodName := ⟨RX1, "borderMeets", "()Z"⟩
abbrev cX1_patternHasOneShade : ByteArray := prog_3_method_18_code
def yX1_patternHasOneShade : MethodName := ⟨RX1, "patternHasOneShade", "()Z"⟩
def RX2 : String := "MosaicFloor$State"
def TX2 : u_T := fun k => match k with
  | 0 => ("MosaicFloor$State", "plan", "LMosaicFloor$Plan;", true)
  | 1 => ("MosaicFloor$State", "stock", "LMosaicFloor$Stock;", true)
  | 2 => ("MosaicFloor$State", "laid", "[I", true)
  | _ => ("MosaicFloor$State", "liftedCount", "I", false)
def tyX2 : Nat → FieldType := fun k => match k with
  | 0 => .object "MosaicFloor$Plan"
  | 1 => .object "MosaicFloor$Stock"
  | 2 => .array .int
  | _ => .int
abbrev wsX20 : List Cond := u_ws RX2 TX2 4
theorem nmX2 : ∀ a, a < 4 → ∀ b, b < 4 → a ≠ b → (TX2 a).2.1 ≠ (TX2 b).2.1 := by decide +kernel
theorem tyX2_ok : ∀ k, k < 4 → parseFieldDescriptor (TX2 k).2.2.1 = some (tyX2 k) := by decide +kernel
abbrev cX2_init : ByteArray := prog_4_method_1_code
def yX2_init : MethodName := ⟨RX2, "<init>", "()V"⟩
abbrev cX2_copyFrom : ByteArray := prog_4_method_2_code
def yX2_copyFrom : MethodName := ⟨RX2, "copyFrom", "(LMosaicFloor$State;)V"⟩
abbrev cX2_laidOrNone : ByteArray := prog_4_method_3_code
def yX2_laidOrNone : MethodName := ⟨RX2, "laidOrNone", "(II)I"⟩
abbrev cX2_putAt : ByteArray := prog_4_method_4_code
def yX2_putAt : MethodName := ⟨RX2, "putAt", "(III)V"⟩
abbrev cX2_isLaid : ByteArray := prog_4_method_5_code
def yX2_isLaid : MethodName := ⟨RX2, "isLaid", "(II)Z"⟩
abbrev cX2_differenceAt : ByteArray := prog_4_method_6_code
def yX2_differenceAt : MethodName := ⟨RX2, "differenceAt", "(II)I"⟩
abbrev cX2_laidCells : ByteArray := prog_4_method_7_code
def yX2_laidCells : MethodName := ⟨RX2, "laidCells", "()I"⟩
abbrev cX2_sumOfDifferences : ByteArray := prog_4_method_8_code
def yX2_sumOfDifferences : MethodName := ⟨RX2, "sumOfDifferences", "()I"⟩
abbrev cX2_greatestDifference : ByteArray := prog_4_method_9_code
def yX2_greatestDifference : MethodName := ⟨RX2, "greatestDifference", "()I"⟩
abbrev cX2_shadeForOrNone : ByteArray := prog_4_method_10_code
def yX2_shadeForOrNone : MethodName := ⟨RX2, "shadeForOrNone", "(II)I"⟩
abbrev cX2_layCellIfPossible : ByteArray := prog_4_method_11_code
def yX2_layCellIfPossible : MethodName := ⟨RX2, "layCellIfPossible", "(II)V"⟩
abbrev cX2_layEmptyCells : ByteArray := prog_4_method_12_code
def yX2_layEmptyCells : MethodName := ⟨RX2, "layEmptyCells", "()I"⟩
abbrev cX2_liftToHand : ByteArray := prog_4_method_13_code
def yX2_liftToHand : MethodName := ⟨RX2, "liftToHand", "(II)Z"⟩
abbrev cX2_lackOf : ByteArray := prog_4_method_14_code
def yX2_lackOf : MethodName := ⟨RX2, "lackOf", "(I)I"⟩
def RX3 : String := "MosaicFloor$Stock"
def TX3 : u_T := fun k => match k with
  | 0 => ("MosaicFloor$Stock", "strips", "[LMosaicFloor$Strip;", true)
  | 1 => ("MosaicFloor$Stock", "atHand", "[I", true)
  | 2 => ("MosaicFloor$Stock", "stripCount", "I", false)
  | 3 => ("MosaicFloor$Stock", "size", "I", false)
  | 4 => ("MosaicFloor$Stock", "loss", "I", false)
  | 5 => ("MosaicFloor$Stock", "brokenCount", "I", false)
  | 6 => ("MosaicFloor$Stock", "brokenLength", "I", false)
  | 7 => ("MosaicFloor$Stock", "sawnLength", "I", false)
  | _ => ("MosaicFloor$Stock", "thrownLength", "I", false)
def tyX3 : Nat → FieldType := fun k => match k with
  | 0 => .array (.object "MosaicFloor$Strip")
  | 1 => .array .int
  | 2 => .int
  | 3 => .int
  | 4 => .int
  | 5 => .int
  | 6 => .int
  | 7 => .int
  | _ => .int
abbrev wsX30 : List Cond := u_ws RX3 TX3 9
theorem nmX3 : ∀ a, a < 9 → ∀ b, b < 9 → a ≠ b → (TX3 a).2.1 ≠ (TX3 b).2.1 := by decide +kernel
theorem tyX3_ok : ∀ k, k < 9 → parseFieldDescriptor (TX3 k).2.2.1 = some (tyX3 k) := by decide +kernel
abbrev cX3_init : ByteArray := prog_5_method_1_code
def yX3_init : MethodName := ⟨RX3, "<init>", "()V"⟩
abbrev cX3_copyFrom : ByteArray := prog_5_method_2_code
def yX3_copyFrom : MethodName := ⟨RX3, "copyFrom", "(LMosaicFloor$Stock;)V"⟩
abbrev cX3_addStrip : ByteArray := prog_5_method_3_code
def yX3_addStrip : MethodName := ⟨RX3, "addStrip", "(II)I"⟩
abbrev cX3_stripOrNull : ByteArray := prog_5_method_4_code
def yX3_stripOrNull : MethodName := ⟨RX3, "stripOrNull", "(I)LMosaicFloor$Strip;"⟩
abbrev cX3_lengthOfStrips : ByteArray := prog_5_method_5_code
def yX3_lengthOfStrips : MethodName := ⟨RX3, "lengthOfStrips", "()I"⟩
abbrev cX3_leftOfStrips : ByteArray := prog_5_method_6_code
def yX3_leftOfStrips : MethodName := ⟨RX3, "leftOfStrips", "()I"⟩
abbrev cX3_tesseraeAtHand : ByteArray := prog_5_method_7_code
def yX3_tesseraeAtHand : MethodName := ⟨RX3, "tesseraeAtHand", "()I"⟩
abbrev cX3_atHandOf : ByteArray := prog_5_method_8_code
def yX3_atHandOf : MethodName := ⟨RX3, "atHandOf", "(I)I"⟩
abbrev cX3_putAtHand : ByteArray := prog_5_method_9_code
def yX3_putAtHand : MethodName := ⟨RX3, "putAtHand", "(I)V"⟩
abbrev cX3_takeFromHand : ByteArray := prog_5_method_10_code
def yX3_takeFromHand : MethodName := ⟨RX3, "takeFromHand", "(I)V"⟩
abbrev cX3_addBroken : ByteArray := prog_5_method_11_code
def yX3_addBroken : MethodName := ⟨RX3, "addBroken", "()V"⟩
abbrev cX3_throwAway : ByteArray := prog_5_method_12_code
def yX3_throwAway : MethodName := ⟨RX3, "throwAway", "()V"⟩
abbrev cX3_readyOf : ByteArray := prog_5_method_13_code
def yX3_readyOf : MethodName := ⟨RX3, "readyOf", "(I)I"⟩
abbrev cX3_nearestShadeOrNone : ByteArray := prog_5_method_14_code
def yX3_nearestShadeOrNone : MethodName := ⟨RX3, "nearestShadeOrNone", "(I)I"⟩
abbrev cX3_nearer : ByteArray := prog_5_method_15_code
def yX3_nearer : MethodName := ⟨RX3, "nearer", "(III)I"⟩
abbrev cX3_bringToHand : ByteArray := prog_5_method_16_code
def yX3_bringToHand : MethodName := ⟨RX3, "bringToHand", "(I)V"⟩
abbrev cX3_firstStripGivingOrNull : ByteArray := prog_5_method_17_code
def yX3_firstStripGivingOrNull : MethodName := ⟨RX3, "firstStripGivingOrNull", "(I)LMosaicFloor$Strip;"⟩
abbrev cX3_cutFrom : ByteArray := prog_5_method_18_code
def yX3_cutFrom : MethodName := ⟨RX3, "cutFrom", "(LMosaicFloor$Strip;)Z"⟩
def RX4 : String := "MosaicFloor$Strip"
def TX4 : u_T := fun k => match k with
  | 0 => ("MosaicFloor$Strip", "flaws", "[I", true)
  | 1 => ("MosaicFloor$Strip", "flawCount", "I", false)
  | 2 => ("MosaicFloor$Strip", "length", "I", false)
  | 3 => ("MosaicFloor$Strip", "shade", "I", false)
  | 4 => ("MosaicFloor$Strip", "start", "I", false)
  | _ => ("MosaicFloor$Strip", "goodCut", "I", false)
def tyX4 : Nat → FieldType := fun k => match k with
  | 0 => .array .int
  | 1 => .int
  | 2 => .int
  | 3 => .int
  | 4 => .int
  | _ => .int
abbrev wsX40 : List Cond := u_ws RX4 TX4 6
theorem nmX4 : ∀ a, a < 6 → ∀ b, b < 6 → a ≠ b → (TX4 a).2.1 ≠ (TX4 b).2.1 := by decide +kernel
theorem tyX4_ok : ∀ k, k < 6 → parseFieldDescriptor (TX4 k).2.2.1 = some (tyX4 k) := by decide +kernel
abbrev cX4_init : ByteArray := prog_6_method_1_code
def yX4_init : MethodName := ⟨RX4, "<init>", "()V"⟩
abbrev cX4_begin : ByteArray := prog_6_method_2_code
def yX4_begin : MethodName := ⟨RX4, "begin", "(II)V"⟩
abbrev cX4_copyFrom : ByteArray := prog_6_method_3_code
def yX4_copyFrom : MethodName := ⟨RX4, "copyFrom", "(LMosaicFloor$Strip;)V"⟩
abbrev cX4_left : ByteArray := prog_6_method_4_code
def yX4_left : MethodName := ⟨RX4, "left", "()I"⟩
abbrev cX4_addFlaw : ByteArray := prog_6_method_5_code
def yX4_addFlaw : MethodName := ⟨RX4, "addFlaw", "(I)V"⟩
abbrev cX4_hasFlawIn : ByteArray := prog_6_method_6_code
def yX4_hasFlawIn : MethodName := ⟨RX4, "hasFlawIn", "(II)Z"⟩
abbrev cX4_tesseraeAhead : ByteArray := prog_6_method_7_code
def yX4_tesseraeAhead : MethodName := ⟨RX4, "tesseraeAhead", "(II)I"⟩
abbrev cX4_goodTesseraeAhead : ByteArray := prog_6_method_8_code
def yX4_goodTesseraeAhead : MethodName := ⟨RX4, "goodTesseraeAhead", "(II)I"⟩
abbrev cX4_givesGood : ByteArray := prog_6_method_9_code
def yX4_givesGood : MethodName := ⟨RX4, "givesGood", "(II)Z"⟩
abbrev cX4_cutOff : ByteArray := prog_6_method_10_code
def yX4_cutOff : MethodName := ⟨RX4, "cutOff", "(II)Z"⟩
def RX5 : String := "MosaicFloor$Text"
def TX5 : u_T := fun k => match k with
  | 0 => ("MosaicFloor$Text", "characters", "[C", true)
  | _ => ("MosaicFloor$Text", "length", "I", false)
def tyX5 : Nat → FieldType := fun k => match k with
  | 0 => .array .char
  | _ => .int
abbrev wsX50 : List Cond := u_ws RX5 TX5 2
theorem nmX5 : ∀ a, a < 2 → ∀ b, b < 2 → a ≠ b → (TX5 a).2.1 ≠ (TX5 b).2.1 := by decide +kernel
theorem tyX5_ok : ∀ k, k < 2 → parseFieldDescriptor (TX5 k).2.2.1 = some (tyX5 k) := by decide +kernel
abbrev cX5_init : ByteArray := prog_7_method_1_code
def yX5_init : MethodName := ⟨RX5, "<init>", "()V"⟩
abbrev cX5_append : ByteArray := prog_7_method_2_code
def yX5_append : MethodName := ⟨RX5, "append", "(I)V"⟩
abbrev cX5_firstFaultOrNone : ByteArray := prog_7_method_3_code
def yX5_firstFaultOrNone : MethodName := ⟨RX5, "firstFaultOrNone", "()I"⟩
abbrev cX5_readShades : ByteArray := prog_7_method_4_code
def yX5_readShades : MethodName := ⟨RX5, "readShades", "([I)I"⟩
abbrev cX5_isDigit : ByteArray := prog_7_method_5_code
def yX5_isDigit : MethodName := ⟨RX5, "isDigit", "(C)Z"⟩
def RX6 : String := "MosaicFloor"
def TX6 : u_T := fun k => match k with
  | 0 => ("MosaicFloor", "now", "LMosaicFloor$State;", true)
  | 1 => ("MosaicFloor", "trial", "LMosaicFloor$State;", true)
  | 2 => ("MosaicFloor", "history", "LMosaicFloor$History;", true)
  | _ => ("MosaicFloor", "text", "LMosaicFloor$Text;", true)
def tyX6 : Nat → FieldType := fun k => match k with
  | 0 => .object "MosaicFloor$State"
  | 1 => .object "MosaicFloor$State"
  | 2 => .object "MosaicFloor$History"
  | _ => .object "MosaicFloor$Text"
abbrev wsX60 : List Cond := u_ws RX6 TX6 4
theorem nmX6 : ∀ a, a < 4 → ∀ b, b < 4 → a ≠ b → (TX6 a).2.1 ≠ (TX6 b).2.1 := by decide +kernel
theorem tyX6_ok : ∀ k, k < 4 → parseFieldDescriptor (TX6 k).2.2.1 = some (tyX6 k) := by decide +kernel
abbrev cX6_init : ByteArray := prog_1_method_1_code
def yX6_init : MethodName := ⟨RX6, "<init>", "()V"⟩
abbrev cX6_floor : ByteArray := prog_1_method_2_code
def yX6_floor : MethodName := ⟨RX6, "floor", "(II)I"⟩
abbrev cX6_set : ByteArray := prog_1_method_3_code
def yX6_set : MethodName := ⟨RX6, "set", "(II)I"⟩
abbrev cX6_pattern : ByteArray := prog_1_method_4_code
def yX6_pattern : MethodName := ⟨RX6, "pattern", "()I"⟩
abbrev cX6_way : ByteArray := prog_1_method_5_code
def yX6_way : MethodName := ⟨RX6, "way", "(I)I"⟩
abbrev cX6_want : ByteArray := prog_1_method_6_code
def yX6_want : MethodName := ⟨RX6, "want", "(III)I"⟩
abbrev cX6_cell : ByteArray := prog_1_method_7_code
def yX6_cell : MethodName := ⟨RX6, "cell", "(III)I"⟩
abbrev cX6_count : ByteArray := prog_1_method_8_code
def yX6_count : MethodName := ⟨RX6, "count", "(I)I"⟩
abbrev cX6_shade : ByteArray := prog_1_method_9_code
def yX6_shade : MethodName := ⟨RX6, "shade", "(I)I"⟩
abbrev cX6_undo : ByteArray := prog_1_method_10_code
def yX6_undo : MethodName := ⟨RX6, "undo", "()I"⟩
abbrev cX6_strip : ByteArray := prog_1_method_11_code
def yX6_strip : MethodName := ⟨RX6, "strip", "(II)I"⟩
abbrev cX6_flaw : ByteArray := prog_1_method_12_code
def yX6_flaw : MethodName := ⟨RX6, "flaw", "(II)I"⟩
abbrev cX6_cut : ByteArray := prog_1_method_13_code
def yX6_cut : MethodName := ⟨RX6, "cut", "(I)I"⟩
abbrev cX6_stripOf : ByteArray := prog_1_method_14_code
def yX6_stripOf : MethodName := ⟨RX6, "stripOf", "(II)I"⟩
abbrev cX6_lay : ByteArray := prog_1_method_15_code
def yX6_lay : MethodName := ⟨RX6, "lay", "(II)I"⟩
abbrev cX6_layAll : ByteArray := prog_1_method_16_code
def yX6_layAll : MethodName := ⟨RX6, "layAll", "()I"⟩
abbrev cX6_lift : ByteArray := prog_1_method_17_code
def yX6_lift : MethodName := ⟨RX6, "lift", "(II)I"⟩
abbrev cX6_nearest : ByteArray := prog_1_method_18_code
def yX6_nearest : MethodName := ⟨RX6, "nearest", "(II)I"⟩
abbrev cX6_ready : ByteArray := prog_1_method_19_code
def yX6_ready : MethodName := ⟨RX6, "ready", "(I)I"⟩
abbrev cX6_lacks : ByteArray := prog_1_method_20_code
def yX6_lacks : MethodName := ⟨RX6, "lacks", "(I)I"⟩
abbrev cX6_stripFor : ByteArray := prog_1_method_21_code
def yX6_stripFor : MethodName := ⟨RX6, "stripFor", "(I)I"⟩
abbrev cX6_ifLaid : ByteArray := prog_1_method_22_code
def yX6_ifLaid : MethodName := ⟨RX6, "ifLaid", "()I"⟩
abbrev cX6_type : ByteArray := prog_1_method_23_code
def yX6_type : MethodName := ⟨RX6, "type", "(I)I"⟩
abbrev cX6_clearText : ByteArray := prog_1_method_24_code
def yX6_clearText : MethodName := ⟨RX6, "clearText", "()I"⟩
abbrev cX6_fault : ByteArray := prog_1_method_25_code
def yX6_fault : MethodName := ⟨RX6, "fault", "()I"⟩
abbrev cX6_isWithin : ByteArray := prog_1_method_26_code
def yX6_isWithin : MethodName := ⟨RX6, "isWithin", "(III)Z"⟩
abbrev cX6_isShade : ByteArray := prog_1_method_27_code
def yX6_isShade : MethodName := ⟨RX6, "isShade", "(I)Z"⟩
abbrev cX6_changeSize : ByteArray := prog_1_method_28_code
def yX6_changeSize : MethodName := ⟨RX6, "changeSize", "(I)I"⟩
abbrev cX6_changeLoss : ByteArray := prog_1_method_29_code
def yX6_changeLoss : MethodName := ⟨RX6, "changeLoss", "(I)I"⟩
abbrev cX6_countOfPlan : ByteArray := prog_1_method_30_code
def yX6_countOfPlan : MethodName := ⟨RX6, "countOfPlan", "(I)I"⟩
abbrev cX6_countOfWork : ByteArray := prog_1_method_31_code
def yX6_countOfWork : MethodName := ⟨RX6, "countOfWork", "(I)I"⟩
abbrev cX6_account : ByteArray := prog_1_method_32_code
def yX6_account : MethodName := ⟨RX6, "account", "(I)I"⟩
def RX7 : String := "MosaicFloorModel"
def TX7 : u_T := fun k => match k with
  | _ => ("", "", "", false)
def tyX7 : Nat → FieldType := fun k => match k with
  | _ => .int
abbrev wsX70 : List Cond := u_ws RX7 TX7 0
theorem nmX7 : ∀ a, a < 0 → ∀ b, b < 0 → a ≠ b → (TX7 a).2.1 ≠ (TX7 b).2.1 := by decide +kernel
theorem tyX7_ok : ∀ k, k < 0 → parseFieldDescriptor (TX7 k).2.2.1 = some (tyX7 k) := by decide +kernel
def RJ9 : String := "java/lang/Math"
abbrev cJ9_abs_0f7a4 : ByteArray := prog_10_method_59_code
def yJ9_abs_0f7a4 : MethodName := ⟨RJ9, "abs", "(I)I"⟩
abbrev cJ9_max_7cf53 : ByteArray := prog_10_method_65_code
def yJ9_max_7cf53 : MethodName := ⟨RJ9, "max", "(II)I"⟩
abbrev cJ9_min_7cf53 : ByteArray := prog_10_method_69_code
def yJ9_min_7cf53 : MethodName := ⟨RJ9, "min", "(II)I"⟩
def RJ10 : String := "java/lang/System"
def RJ7 : String := "java/util/Arrays"
abbrev cJ7_fill_53178 : ByteArray := prog_12_method_103_code
def yJ7_fill_53178 : MethodName := ⟨RJ7, "fill", "([II)V"⟩
def RL : String := "MosaicFloorLaw"
abbrev cL_lot : ByteArray := method_2_code
def yL_lot : MethodName := ⟨RL, "lot", "([II)I"⟩
abbrev cL_low : ByteArray := method_3_code
def yL_low : MethodName := ⟨RL, "low", "(II)I"⟩
abbrev cL_sound : ByteArray := method_4_code
def yL_sound : MethodName := ⟨RL, "sound", "(LMosaicFloor;)Z"⟩
abbrev cL_border : ByteArray := method_5_code
def yL_border : MethodName := ⟨RL, "border", "(LMosaicFloor;)Z"⟩
abbrev cL_near : ByteArray := method_6_code
def yL_near : MethodName := ⟨RL, "near", "(LMosaicFloor;II)Z"⟩
abbrev cL_put : ByteArray := method_7_code
def yL_put : MethodName := ⟨RL, "put", "(LMosaicFloor;I)I"⟩
abbrev cL_patterns : ByteArray := method_8_code
def yL_patterns : MethodName := ⟨RL, "patterns", "(LMosaicFloor;I)Z"⟩
abbrev cL_lays : ByteArray := method_9_code
def yL_lays : MethodName := ⟨RL, "lays", "(LMosaicFloor;II)Z"⟩
abbrev cL_refuses : ByteArray := method_10_code
def yL_refuses : MethodName := ⟨RL, "refuses", "(LMosaicFloor;)Z"⟩
abbrev cL_law : ByteArray := code
def yL_law : MethodName := ⟨RL, "law", "([I)Z"⟩
