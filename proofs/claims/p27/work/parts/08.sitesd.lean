theorem mw_623 : (Jvm.Cond.instanceMethod ({ cls := "MosaicFloor$Text", name := "append", desc := "(I)V" } : Jvm.MethodName)) ∈ mm_gw := mm_gwI 636 (by decide +kernel) (by decide +kernel)
theorem mw_625 : (Jvm.Cond.code ({ cls := "MosaicFloor$Text", name := "append", desc := "(I)V" } : Jvm.MethodName) prog_7_method_2_code (2 : Nat) (Option.none : Option Jvm.ClassFile.FieldType)) ∈ mm_gw := mm_gwI 638 (by decide +kernel) (by decide +kernel)
theorem mw_626 : (Jvm.Cond.methodLink "MosaicFloorLaw" (49 : Nat) ({ cls := "MosaicFloor", name := "pattern", desc := "()I" } : Jvm.MethodName)) ∈ mm_gw := mm_gwI 639 (by decide +kernel) (by decide +kernel)
theorem mw_627 : (Jvm.Cond.instanceMethod ({ cls := "MosaicFloor", name := "pattern", desc := "()I" } : Jvm.MethodName)) ∈ mm_gw := mm_gwI 640 (by decide +kernel) (by decide +kernel)
theorem mw_629 : (Jvm.Cond.code ({ cls := "MosaicFloor", name := "pattern", desc := "()I" } : Jvm.MethodName) prog_1_method_4_code (1 : Nat) (Option.some Jvm.ClassFile.FieldType.int)) ∈ mm_gw := mm_gwI 642 (by decide +kernel) (by decide +kernel)
theorem mw_630 : (Jvm.Cond.methodLink "MosaicFloor" (65 : Nat) ({ cls := "MosaicFloor$Plan", name := "takePattern", desc := "(LMosaicFloor$Text;)I" } : Jvm.MethodName)) ∈ mm_gw := mm_gwI 643 (by decide +kernel) (by decide +kernel)
theorem mw_631 : (Jvm.Cond.instanceMethod ({ cls := "MosaicFloor$Plan", name := "takePattern", desc := "(LMosaicFloor$Text;)I" } : Jvm.MethodName)) ∈ mm_gw := mm_gwI 644 (by decide +kernel) (by decide +kernel)
theorem mw_633 : (Jvm.Cond.code ({ cls := "MosaicFloor$Plan", name := "takePattern", desc := "(LMosaicFloor$Text;)I" } : Jvm.MethodName) prog_3_method_4_code (2 : Nat) (Option.some Jvm.ClassFile.FieldType.int)) ∈ mm_gw := mm_gwI 646 (by decide +kernel) (by decide +kernel)
theorem mw_634 : (Jvm.Cond.methodLink "MosaicFloor$Plan" (47 : Nat) ({ cls := "MosaicFloor$Text", name := "readShades", desc := "([I)I" } : Jvm.MethodName)) ∈ mm_gw := mm_gwI 647 (by decide +kernel) (by decide +kernel)
theorem mw_635 : (Jvm.Cond.instanceMethod ({ cls := "MosaicFloor$Text", name := "readShades", desc := "([I)I" } : Jvm.MethodName)) ∈ mm_gw := mm_gwI 648 (by decide +kernel) (by decide +kernel)
theorem mw_637 : (Jvm.Cond.code ({ cls := "MosaicFloor$Text", name := "readShades", desc := "([I)I" } : Jvm.MethodName) prog_7_method_4_code (5 : Nat) (Option.some Jvm.ClassFile.FieldType.int)) ∈ mm_gw := mm_gwI 650 (by decide +kernel) (by decide +kernel)
theorem mw_638 : (Jvm.Cond.methodLink "MosaicFloor$Text" (23 : Nat) ({ cls := "java/lang/Math", name := "min", desc := "(II)I" } : Jvm.MethodName)) ∈ mm_gw := mm_gwI 651 (by decide +kernel) (by decide +kernel)
theorem mw_639 : (Jvm.Cond.methodLink "MosaicFloorLaw" (113 : Nat) ({ cls := "MosaicFloorLaw", name := "lays", desc := "(LMosaicFloor;II)Z" } : Jvm.MethodName)) ∈ mm_gw := mm_gwI 652 (by decide +kernel) (by decide +kernel)
theorem mw_640 : (Jvm.Cond.static ({ cls := "MosaicFloorLaw", name := "lays", desc := "(LMosaicFloor;II)Z" } : Jvm.MethodName)) ∈ mm_gw := mm_gwI 653 (by decide +kernel) (by decide +kernel)
set_option maxRecDepth 1000000 in
theorem mw_641 : (Jvm.Cond.code ({ cls := "MosaicFloorLaw", name := "lays", desc := "(LMosaicFloor;II)Z" } : Jvm.MethodName) method_9_code (8 : Nat) (Option.some Jvm.ClassFile.FieldType.boolean)) ∈ mm_gw := mm_gwI 654 rfl (by decide +kernel)
theorem mw_642 : (Jvm.Cond.methodLink "MosaicFloorLaw" (55 : Nat) ({ cls := "MosaicFloor", name := "lay", desc := "(II)I" } : Jvm.MethodName)) ∈ mm_gw := mm_gwI 655 (by decide +kernel) (by decide +kernel)
theorem mw_643 : (Jvm.Cond.instanceMethod ({ cls := "MosaicFloor", name := "lay", desc := "(II)I" } : Jvm.MethodName)) ∈ mm_gw := mm_gwI 656 (by decide +kernel) (by decide +kernel)
theorem mw_645 : (Jvm.Cond.code ({ cls := "MosaicFloor", name := "lay", desc := "(II)I" } : Jvm.MethodName) prog_1_method_15_code (3 : Nat) (Option.some Jvm.ClassFile.FieldType.int)) ∈ mm_gw := mm_gwI 658 (by decide +kernel) (by decide +kernel)
theorem mw_646 : (Jvm.Cond.methodLink "MosaicFloor" (187 : Nat) ({ cls := "MosaicFloor$State", name := "layCellIfPossible", desc := "(II)V" } : Jvm.MethodName)) ∈ mm_gw := mm_gwI 659 (by decide +kernel) (by decide +kernel)
theorem mw_647 : (Jvm.Cond.methodLink "MosaicFloorLaw" (89 : Nat) ({ cls := "MosaicFloorLaw", name := "refuses", desc := "(LMosaicFloor;)Z" } : Jvm.MethodName)) ∈ mm_gw := mm_gwI 660 (by decide +kernel) (by decide +kernel)
theorem mw_648 : (Jvm.Cond.static ({ cls := "MosaicFloorLaw", name := "refuses", desc := "(LMosaicFloor;)Z" } : Jvm.MethodName)) ∈ mm_gw := mm_gwI 661 (by decide +kernel) (by decide +kernel)
set_option maxRecDepth 1000000 in
theorem mw_649 : (Jvm.Cond.code ({ cls := "MosaicFloorLaw", name := "refuses", desc := "(LMosaicFloor;)Z" } : Jvm.MethodName) method_10_code (6 : Nat) (Option.some Jvm.ClassFile.FieldType.boolean)) ∈ mm_gw := mm_gwI 662 rfl (by decide +kernel)
theorem iw_0 : ∀ w ∈ u_ws RX0 TX0 2, w ∈ mm_gw := by decide +kernel
theorem df_0 : ∀ j, j < 2 → defaultValue (tyX0 j) = vp_V [.null, .int 0] j := fun j hj => by rcases (show j = 0 ∨ j = 1 by omega) with rfl | rfl <;> rfl
theorem iw_1 : ∀ w ∈ u_ws RX1 TX1 6, w ∈ mm_gw := by decide +kernel
theorem df_1 : ∀ j, j < 6 → defaultValue (tyX1 j) = vp_V [.null, .null, .int 0, .int 0, .int 0, .int 0] j := fun j hj => by rcases (show j = 0 ∨ j = 1 ∨ j = 2 ∨ j = 3 ∨ j = 4 ∨ j = 5 by omega) with rfl | rfl | rfl | rfl | rfl | rfl <;> rfl
theorem iw_2 : ∀ w ∈ u_ws RX2 TX2 4, w ∈ mm_gw := by decide +kernel
theorem df_2 : ∀ j, j < 4 → defaultValue (tyX2 j) = vp_V [.null, .null, .null, .int 0] j := fun j hj => by rcases (show j = 0 ∨ j = 1 ∨ j = 2 ∨ j = 3 by omega) with rfl | rfl | rfl | rfl <;> rfl
theorem iw_3 : ∀ w ∈ u_ws RX3 TX3 9, w ∈ mm_gw := by decide +kernel
theorem df_3 : ∀ j, j < 9 → defaultValue (tyX3 j) = vp_V [.null, .null, .int 0, .int 0, .int 0, .int 0, .int 0, .int 0, .int 0] j := fun j hj => by rcases (show j = 0 ∨ j = 1 ∨ j = 2 ∨ j = 3 ∨ j = 4 ∨ j = 5 ∨ j = 6 ∨ j = 7 ∨ j = 8 by omega) with rfl | rfl | rfl | rfl | rfl | rfl | rfl | rfl | rfl <;> rfl
theorem iw_4 : ∀ w ∈ u_ws RX4 TX4 6, w ∈ mm_gw := by decide +kernel
theorem df_4 : ∀ j, j < 6 → defaultValue (tyX4 j) = vp_V [.null, .int 0, .int 0, .int 0, .int 0, .int 0] j := fun j hj => by rcases (show j = 0 ∨ j = 1 ∨ j = 2 ∨ j = 3 ∨ j = 4 ∨ j = 5 by omega) with rfl | rfl | rfl | rfl | rfl | rfl <;> rfl
theorem iw_5 : ∀ w ∈ u_ws RX5 TX5 2, w ∈ mm_gw := by decide +kernel
theorem df_5 : ∀ j, j < 2 → defaultValue (tyX5 j) = vp_V [.null, .int 0] j := fun j hj => by rcases (show j = 0 ∨ j = 1 by omega) with rfl | rfl <;> rfl
theorem iw_6 : ∀ w ∈ u_ws RX6 TX6 4, w ∈ mm_gw := by decide +kernel
theorem df_6 : ∀ j, j < 4 → defaultValue (tyX6 j) = vp_V [.null, .null, .null, .null] j := fun j hj => by rcases (show j = 0 ∨ j = 1 ∨ j = 2 ∨ j = 3 by omega) with rfl | rfl | rfl | rfl <;> rfl
theorem mm_u1e {α0 β : Type} {f : α0 → β} {a0 : α0} {r : β} (h : mm_u1 f a0 = r) : f a0 = r := h
theorem mm_u2e {α0 α1 β : Type} {f : α0 → α1 → β} {a0 : α0} {a1 : α1} {r : β} (h : mm_u2 f (a0, a1) = r) : f a0 a1 = r := h
theorem mm_u3e {α0 α1 α2 β : Type} {f : α0 → α1 → α2 → β} {a0 : α0} {a1 : α1} {a2 : α2} {r : β} (h : mm_u3 f (a0, a1, a2) = r) : f a0 a1 a2 = r := h
theorem mm_u4e {α0 α1 α2 α3 β : Type} {f : α0 → α1 → α2 → α3 → β} {a0 : α0} {a1 : α1} {a2 : α2} {a3 : α3} {r : β} (h : mm_u4 f (a0, a1, a2, a3) = r) : f a0 a1 a2 a3 = r := h
theorem mm_u5e {α0 α1 α2 α3 α4 β : Type} {f : α0 → α1 → α2 → α3 → α4 → β} {a0 : α0} {a1 : α1} {a2 : α2} {a3 : α3} {a4 : α4} {r : β} (h : mm_u5 f (a0, a1, a2, a3, a4) = r) : f a0 a1 a2 a3 a4 = r := h
theorem mm_u6e {α0 α1 α2 α3 α4 α5 β : Type} {f : α0 → α1 → α2 → α3 → α4 → α5 → β} {a0 : α0} {a1 : α1} {a2 : α2} {a3 : α3} {a4 : α4} {a5 : α5} {r : β} (h : mm_u6 f (a0, a1, a2, a3, a4, a5) = r) : f a0 a1 a2 a3 a4 a5 = r := h
theorem mm_ht0 {g : mm_G} {s : State} (hK : mm_K g s) : ∀ cA, s.vm.findClass ("[" ++ (FieldType.int).toString) = some cA → cA = g.2 0 := fun cA h => by
  have h2 : s.vm.findClass ("[" ++ (FieldType.int).toString) = some (g.2 0) := (hK.1.2 0 _ rfl).2
  exact Option.some.inj (h.symm.trans h2)
theorem mm_ht1 {g : mm_G} {s : State} (hK : mm_K g s) : ∀ cA, s.vm.findClass ("[" ++ (FieldType.char).toString) = some cA → cA = g.2 1 := fun cA h => by
  have h2 : s.vm.findClass ("[" ++ (FieldType.char).toString) = some (g.2 1) := (hK.1.2 1 _ rfl).2
  exact Option.some.inj (h.symm.trans h2)
theorem mm_ht2 {g : mm_G} {s : State} (hK : mm_K g s) : ∀ cA, s.vm.findClass ("[" ++ (FieldType.object RX4).toString) = some cA → cA = g.2 2 := fun cA h => by
  obtain ⟨kA, comp, h1, h2, h3, h4⟩ := (hK.1.2 2 _ rfl).2
  exact Option.some.inj (h.symm.trans h4)
theorem mm_ht3 {g : mm_G} {s : State} (hK : mm_K g s) : ∀ cA, s.vm.findClass ("[" ++ (FieldType.object RX2).toString) = some cA → cA = g.2 3 := fun cA h => by
  obtain ⟨kA, comp, h1, h2, h3, h4⟩ := (hK.1.2 3 _ rfl).2
  exact Option.some.inj (h.symm.trans h4)
theorem ps_X1_29 : mm_PS RX1 29 1 4 false .int := ⟨RX1, TX1, 6, tyX1, rfl, by decide, iw_1, mw_44, tyX1_ok, nmX1, rfl, by decide +kernel, fun h => by cases h⟩
theorem ps_X1_32 : mm_PS RX1 32 1 5 false .int := ⟨RX1, TX1, 6, tyX1, rfl, by decide, iw_1, mw_47, tyX1_ok, nmX1, rfl, by decide +kernel, fun h => by cases h⟩
theorem fs_X1_9 : mm_FS RX1 9 1 0 := ⟨RX1, TX1, 6, rfl, by decide, iw_1, mw_38⟩
theorem ss_X1_35 : mm_SS RX1 35 yJ7_fill_53178 cJ7_fill_53178 4 (Option.none : Option Jvm.ClassFile.FieldType) 2 := ⟨mw_35, mw_36, mw_4, mw_37, by decide +kernel⟩
theorem oc_i : Cond.code objectInit ⟨#[0xb1]⟩ 1 none ∈ mm_gw := mm_gwI 31 (by decide +kernel) (by decide +kernel)
theorem ps_X1_9 : mm_PS RX1 9 1 0 true (.array .int) := ⟨RX1, TX1, 6, tyX1, rfl, by decide, iw_1, mw_38, tyX1_ok, nmX1, rfl, by decide +kernel, fun _ => rfl⟩
theorem ps_X1_15 : mm_PS RX1 15 1 1 true (.array .int) := ⟨RX1, TX1, 6, tyX1, rfl, by decide, iw_1, mw_39, tyX1_ok, nmX1, rfl, by decide +kernel, fun _ => rfl⟩
theorem ps_X1_18 : mm_PS RX1 18 1 2 false .int := ⟨RX1, TX1, 6, tyX1, rfl, by decide, iw_1, mw_40, tyX1_ok, nmX1, rfl, by decide +kernel, fun h => by cases h⟩
theorem ps_X1_22 : mm_PS RX1 22 1 3 false .int := ⟨RX1, TX1, 6, tyX1, rfl, by decide, iw_1, mw_42, tyX1_ok, nmX1, rfl, by decide +kernel, fun h => by cases h⟩
theorem vs_X1_25 : mm_VS RX1 25 1 yX1_begin cX1_begin 3 (Option.none : Option Jvm.ClassFile.FieldType) 2 := ⟨⟨TX1, 6, rfl⟩, mw_31, mw_32, List.mem_of_getElem? (i := 46) (by decide +kernel), by decide +kernel, mw_3, mw_34, by decide +kernel⟩
theorem ps_X4_9 : mm_PS RX4 9 4 0 true (.array .int) := ⟨RX4, TX4, 6, tyX4, rfl, by decide, iw_4, mw_77, tyX4_ok, nmX4, rfl, by decide +kernel, fun _ => rfl⟩
theorem ps_X3_11 : mm_PS RX3 11 3 0 true (.array (.object "MosaicFloor$Strip")) := ⟨RX3, TX3, 9, tyX3, rfl, by decide, iw_3, mw_103, tyX3_ok, nmX3, rfl, by decide +kernel, fun _ => rfl⟩
theorem ps_X3_17 : mm_PS RX3 17 3 1 true (.array .int) := ⟨RX3, TX3, 9, tyX3, rfl, by decide, iw_3, mw_104, tyX3_ok, nmX3, rfl, by decide +kernel, fun _ => rfl⟩
theorem ps_X3_21 : mm_PS RX3 21 3 3 false .int := ⟨RX3, TX3, 9, tyX3, rfl, by decide, iw_3, mw_107, tyX3_ok, nmX3, rfl, by decide +kernel, fun h => by cases h⟩
theorem ps_X3_25 : mm_PS RX3 25 3 4 false .int := ⟨RX3, TX3, 9, tyX3, rfl, by decide, iw_3, mw_109, tyX3_ok, nmX3, rfl, by decide +kernel, fun h => by cases h⟩
theorem fs_X3_11 : mm_FS RX3 11 3 0 := ⟨RX3, TX3, 9, rfl, by decide, iw_3, mw_103⟩
theorem in_X3_28 : mm_IN RX3 28 yX4_init RX6 cX4_init 1 0 := ⟨mw_74, rfl, mw_6, mw_75, by decide +kernel⟩
theorem is_X2_11 : mm_IS RX2 11 yX1_init cX1_init 1 0 := ⟨mw_27, mw_28, rfl, mw_3, mw_29, by decide +kernel⟩
theorem ps_X2_12 : mm_PS RX2 12 2 0 true (.object "MosaicFloor$Plan") := ⟨RX2, TX2, 4, tyX2, rfl, by decide, iw_2, mw_139, tyX2_ok, nmX2, rfl, by decide +kernel, fun _ => rfl⟩
theorem is_X2_20 : mm_IS RX2 20 yX3_init cX3_init 2 0 := ⟨mw_66, mw_67, rfl, mw_5, mw_68, by decide +kernel⟩
theorem ps_X2_21 : mm_PS RX2 21 2 1 true (.object "MosaicFloor$Stock") := ⟨RX2, TX2, 4, tyX2, rfl, by decide, iw_2, mw_141, tyX2_ok, nmX2, rfl, by decide +kernel, fun _ => rfl⟩
theorem ps_X2_25 : mm_PS RX2 25 2 2 true (.array .int) := ⟨RX2, TX2, 4, tyX2, rfl, by decide, iw_2, mw_143, tyX2_ok, nmX2, rfl, by decide +kernel, fun _ => rfl⟩
theorem fs_X2_25 : mm_FS RX2 25 2 2 := ⟨RX2, TX2, 4, rfl, by decide, iw_2, mw_143⟩
theorem ss_X2_29 : mm_SS RX2 29 yJ7_fill_53178 cJ7_fill_53178 4 (Option.none : Option Jvm.ClassFile.FieldType) 2 := ⟨mw_138, mw_36, mw_4, mw_37, by decide +kernel⟩
theorem ps_X0_11 : mm_PS RX0 11 0 0 true (.array (.object "MosaicFloor$State")) := ⟨RX0, TX0, 2, tyX0, rfl, by decide, iw_0, mw_164, tyX0_ok, nmX0, rfl, by decide +kernel, fun _ => rfl⟩
theorem fs_X0_11 : mm_FS RX0 11 0 0 := ⟨RX0, TX0, 2, rfl, by decide, iw_0, mw_164⟩
theorem is_X0_17 : mm_IS RX0 17 yX2_init cX2_init 1 0 := ⟨mw_163, mw_22, rfl, mw_2, mw_23, by decide +kernel⟩
theorem ps_X5_9 : mm_PS RX5 9 5 0 true (.array .char) := ⟨RX5, TX5, 2, tyX5, rfl, by decide, iw_5, mw_177, tyX5_ok, nmX5, rfl, by decide +kernel, fun _ => rfl⟩
theorem is_X6_9 : mm_IS RX6 9 yX2_init cX2_init 1 0 := ⟨mw_21, mw_22, rfl, mw_2, mw_23, by decide +kernel⟩
theorem ps_X6_10 : mm_PS RX6 10 6 0 true (.object "MosaicFloor$State") := ⟨RX6, TX6, 4, tyX6, rfl, by decide, iw_6, mw_186, tyX6_ok, nmX6, rfl, by decide +kernel, fun _ => rfl⟩
theorem ps_X6_16 : mm_PS RX6 16 6 1 true (.object "MosaicFloor$State") := ⟨RX6, TX6, 4, tyX6, rfl, by decide, iw_6, mw_187, tyX6_ok, nmX6, rfl, by decide +kernel, fun _ => rfl⟩
theorem is_X6_21 : mm_IS RX6 21 yX0_init cX0_init 2 0 := ⟨mw_157, mw_158, rfl, mw_7, mw_159, by decide +kernel⟩
theorem ps_X6_22 : mm_PS RX6 22 6 2 true (.object "MosaicFloor$History") := ⟨RX6, TX6, 4, tyX6, rfl, by decide, iw_6, mw_188, tyX6_ok, nmX6, rfl, by decide +kernel, fun _ => rfl⟩
theorem in_X6_28 : mm_IN RX6 28 yX5_init RX6 cX5_init 1 0 := ⟨mw_174, rfl, mw_8, mw_175, by decide +kernel⟩
theorem ps_X6_29 : mm_PS RX6 29 6 3 true (.object "MosaicFloor$Text") := ⟨RX6, TX6, 4, tyX6, rfl, by decide, iw_6, mw_189, tyX6_ok, nmX6, rfl, by decide +kernel, fun _ => rfl⟩
theorem fs_X0_18 : mm_FS RX0 18 0 1 := ⟨RX0, TX0, 2, rfl, by decide, iw_0, mw_165⟩
theorem ps_X0_18 : mm_PS RX0 18 0 1 false .int := ⟨RX0, TX0, 2, tyX0, rfl, by decide, iw_0, mw_165, tyX0_ok, nmX0, rfl, by decide +kernel, fun h => by cases h⟩
theorem fs_X1_15 : mm_FS RX1 15 1 1 := ⟨RX1, TX1, 6, rfl, by decide, iw_1, mw_39⟩
theorem fs_X1_18 : mm_FS RX1 18 1 2 := ⟨RX1, TX1, 6, rfl, by decide, iw_1, mw_40⟩
theorem fs_X1_22 : mm_FS RX1 22 1 3 := ⟨RX1, TX1, 6, rfl, by decide, iw_1, mw_42⟩
theorem fs_X1_29 : mm_FS RX1 29 1 4 := ⟨RX1, TX1, 6, rfl, by decide, iw_1, mw_44⟩
theorem fs_X1_32 : mm_FS RX1 32 1 5 := ⟨RX1, TX1, 6, rfl, by decide, iw_1, mw_47⟩
theorem fs_X4_9 : mm_FS RX4 9 4 0 := ⟨RX4, TX4, 6, rfl, by decide, iw_4, mw_77⟩
theorem fs_X4_25 : mm_FS RX4 25 4 1 := ⟨RX4, TX4, 6, rfl, by decide, iw_4, mw_78⟩
theorem ps_X4_25 : mm_PS RX4 25 4 1 false .int := ⟨RX4, TX4, 6, tyX4, rfl, by decide, iw_4, mw_78, tyX4_ok, nmX4, rfl, by decide +kernel, fun h => by cases h⟩
theorem fs_X4_15 : mm_FS RX4 15 4 2 := ⟨RX4, TX4, 6, rfl, by decide, iw_4, mw_80⟩
theorem ps_X4_15 : mm_PS RX4 15 4 2 false .int := ⟨RX4, TX4, 6, tyX4, rfl, by decide, iw_4, mw_80, tyX4_ok, nmX4, rfl, by decide +kernel, fun h => by cases h⟩
theorem fs_X4_19 : mm_FS RX4 19 4 3 := ⟨RX4, TX4, 6, rfl, by decide, iw_4, mw_83⟩
theorem ps_X4_19 : mm_PS RX4 19 4 3 false .int := ⟨RX4, TX4, 6, tyX4, rfl, by decide, iw_4, mw_83, tyX4_ok, nmX4, rfl, by decide +kernel, fun h => by cases h⟩
theorem fs_X4_22 : mm_FS RX4 22 4 4 := ⟨RX4, TX4, 6, rfl, by decide, iw_4, mw_86⟩
theorem ps_X4_22 : mm_PS RX4 22 4 4 false .int := ⟨RX4, TX4, 6, tyX4, rfl, by decide, iw_4, mw_86, tyX4_ok, nmX4, rfl, by decide +kernel, fun h => by cases h⟩
theorem fs_X4_28 : mm_FS RX4 28 4 5 := ⟨RX4, TX4, 6, rfl, by decide, iw_4, mw_88⟩
theorem ps_X4_28 : mm_PS RX4 28 4 5 false .int := ⟨RX4, TX4, 6, tyX4, rfl, by decide, iw_4, mw_88, tyX4_ok, nmX4, rfl, by decide +kernel, fun h => by cases h⟩
theorem vs_X3_29 : mm_VS RX3 29 4 yX4_copyFrom cX4_copyFrom 2 (Option.none : Option Jvm.ClassFile.FieldType) 1 := ⟨⟨TX4, 6, rfl⟩, mw_233, mw_234, List.mem_of_getElem? (i := 248) (by decide +kernel), by decide +kernel, mw_6, mw_236, by decide +kernel⟩
theorem fs_X3_17 : mm_FS RX3 17 3 1 := ⟨RX3, TX3, 9, rfl, by decide, iw_3, mw_104⟩
theorem fs_X3_39 : mm_FS RX3 39 3 2 := ⟨RX3, TX3, 9, rfl, by decide, iw_3, mw_105⟩
theorem ps_X3_39 : mm_PS RX3 39 3 2 false .int := ⟨RX3, TX3, 9, tyX3, rfl, by decide, iw_3, mw_105, tyX3_ok, nmX3, rfl, by decide +kernel, fun h => by cases h⟩
theorem fs_X3_21 : mm_FS RX3 21 3 3 := ⟨RX3, TX3, 9, rfl, by decide, iw_3, mw_107⟩
theorem fs_X3_25 : mm_FS RX3 25 3 4 := ⟨RX3, TX3, 9, rfl, by decide, iw_3, mw_109⟩
theorem fs_X3_42 : mm_FS RX3 42 3 5 := ⟨RX3, TX3, 9, rfl, by decide, iw_3, mw_111⟩
theorem ps_X3_42 : mm_PS RX3 42 3 5 false .int := ⟨RX3, TX3, 9, tyX3, rfl, by decide, iw_3, mw_111, tyX3_ok, nmX3, rfl, by decide +kernel, fun h => by cases h⟩
theorem fs_X3_45 : mm_FS RX3 45 3 6 := ⟨RX3, TX3, 9, rfl, by decide, iw_3, mw_113⟩
theorem ps_X3_45 : mm_PS RX3 45 3 6 false .int := ⟨RX3, TX3, 9, tyX3, rfl, by decide, iw_3, mw_113, tyX3_ok, nmX3, rfl, by decide +kernel, fun h => by cases h⟩
theorem fs_X3_48 : mm_FS RX3 48 3 7 := ⟨RX3, TX3, 9, rfl, by decide, iw_3, mw_115⟩
theorem ps_X3_48 : mm_PS RX3 48 3 7 false .int := ⟨RX3, TX3, 9, tyX3, rfl, by decide, iw_3, mw_115, tyX3_ok, nmX3, rfl, by decide +kernel, fun h => by cases h⟩
theorem fs_X3_51 : mm_FS RX3 51 3 8 := ⟨RX3, TX3, 9, rfl, by decide, iw_3, mw_117⟩
theorem ps_X3_51 : mm_PS RX3 51 3 8 false .int := ⟨RX3, TX3, 9, tyX3, rfl, by decide, iw_3, mw_117, tyX3_ok, nmX3, rfl, by decide +kernel, fun h => by cases h⟩
theorem fs_X2_12 : mm_FS RX2 12 2 0 := ⟨RX2, TX2, 4, rfl, by decide, iw_2, mw_139⟩
theorem vs_X2_35 : mm_VS RX2 35 1 yX1_copyFrom cX1_copyFrom 2 (Option.none : Option Jvm.ClassFile.FieldType) 1 := ⟨⟨TX1, 6, rfl⟩, mw_222, mw_223, List.mem_of_getElem? (i := 237) (by decide +kernel), by decide +kernel, mw_3, mw_225, by decide +kernel⟩
theorem fs_X2_21 : mm_FS RX2 21 2 1 := ⟨RX2, TX2, 4, rfl, by decide, iw_2, mw_141⟩
theorem vs_X2_39 : mm_VS RX2 39 3 yX3_copyFrom cX3_copyFrom 3 (Option.none : Option Jvm.ClassFile.FieldType) 1 := ⟨⟨TX3, 9, rfl⟩, mw_229, mw_230, List.mem_of_getElem? (i := 244) (by decide +kernel), by decide +kernel, mw_5, mw_232, by decide +kernel⟩
theorem fs_X2_48 : mm_FS RX2 48 2 3 := ⟨RX2, TX2, 4, rfl, by decide, iw_2, mw_144⟩
theorem ps_X2_48 : mm_PS RX2 48 2 3 false .int := ⟨RX2, TX2, 4, tyX2, rfl, by decide, iw_2, mw_144, tyX2_ok, nmX2, rfl, by decide +kernel, fun h => by cases h⟩
theorem vs_X0_25 : mm_VS RX0 25 2 yX2_copyFrom cX2_copyFrom 2 (Option.none : Option Jvm.ClassFile.FieldType) 1 := ⟨⟨TX2, 4, rfl⟩, mw_218, mw_219, List.mem_of_getElem? (i := 233) (by decide +kernel), by decide +kernel, mw_2, mw_221, by decide +kernel⟩
theorem vs_X0_22 : mm_VS RX0 22 0 yX0_dropOldest cX0_dropOldest 3 (Option.none : Option Jvm.ClassFile.FieldType) 0 := ⟨⟨TX0, 2, rfl⟩, mw_214, mw_216, List.mem_of_getElem? (i := 0) (by decide +kernel), by decide +kernel, mw_7, mw_217, by decide +kernel⟩
theorem ss_X6_33 : mm_SS RX6 33 yX6_isWithin cX6_isWithin 3 (Option.some Jvm.ClassFile.FieldType.boolean) 3 := ⟨mw_203, mw_204, mw_1, mw_205, by decide +kernel⟩
theorem fs_X6_10 : mm_FS RX6 10 6 0 := ⟨RX6, TX6, 4, rfl, by decide, iw_6, mw_186⟩
theorem vs_X6_37 : mm_VS RX6 37 2 yX2_laidCells cX2_laidCells 6 (Option.some Jvm.ClassFile.FieldType.int) 0 := ⟨⟨TX2, 4, rfl⟩, mw_206, mw_207, List.mem_of_getElem? (i := 221) (by decide +kernel), by decide +kernel, mw_2, mw_209, by decide +kernel⟩
theorem fs_X6_22 : mm_FS RX6 22 6 2 := ⟨RX6, TX6, 4, rfl, by decide, iw_6, mw_188⟩
theorem vs_X6_41 : mm_VS RX6 41 0 yX0_keep cX0_keep 2 (Option.none : Option Jvm.ClassFile.FieldType) 1 := ⟨⟨TX0, 2, rfl⟩, mw_210, mw_211, List.mem_of_getElem? (i := 225) (by decide +kernel), by decide +kernel, mw_7, mw_213, by decide +kernel⟩
theorem fs_X6_45 : mm_FS RX6 45 2 0 := ⟨RX2, TX2, 4, rfl, by decide, iw_2, mw_140⟩
theorem vs_X6_49 : mm_VS RX6 49 1 yX1_begin cX1_begin 3 (Option.none : Option Jvm.ClassFile.FieldType) 2 := ⟨⟨TX1, 6, rfl⟩, mw_240, mw_32, List.mem_of_getElem? (i := 46) (by decide +kernel), by decide +kernel, mw_3, mw_34, by decide +kernel⟩
theorem vs_X3_73 : mm_VS RX3 73 3 yX3_tesseraeAtHand cX3_tesseraeAtHand 6 (Option.some Jvm.ClassFile.FieldType.int) 0 := ⟨⟨TX3, 9, rfl⟩, mw_253, mw_254, List.mem_of_getElem? (i := 268) (by decide +kernel), by decide +kernel, mw_5, mw_256, by decide +kernel⟩
theorem ss_X3_76 : mm_SS RX3 76 yJ7_fill_53178 cJ7_fill_53178 4 (Option.none : Option Jvm.ClassFile.FieldType) 2 := ⟨mw_257, mw_36, mw_4, mw_37, by decide +kernel⟩
theorem fs_X6_125 : mm_FS RX6 125 2 1 := ⟨RX2, TX2, 4, rfl, by decide, iw_2, mw_142⟩
theorem fs_X6_162 : mm_FS RX6 162 3 3 := ⟨RX3, TX3, 9, rfl, by decide, iw_3, mw_108⟩
theorem vs_X6_217 : mm_VS RX6 217 3 yX3_throwAway cX3_throwAway 1 (Option.none : Option Jvm.ClassFile.FieldType) 0 := ⟨⟨TX3, 9, rfl⟩, mw_249, mw_250, List.mem_of_getElem? (i := 264) (by decide +kernel), by decide +kernel, mw_5, mw_252, by decide +kernel⟩
theorem ps_X6_162 : mm_PS RX6 162 3 3 false .int := ⟨RX3, TX3, 9, tyX3, rfl, by decide, iw_3, mw_108, tyX3_ok, nmX3, rfl, by decide +kernel, fun h => by cases h⟩
theorem fs_X6_172 : mm_FS RX6 172 3 4 := ⟨RX3, TX3, 9, rfl, by decide, iw_3, mw_110⟩
theorem ps_X6_172 : mm_PS RX6 172 3 4 false .int := ⟨RX3, TX3, 9, tyX3, rfl, by decide, iw_3, mw_110, tyX3_ok, nmX3, rfl, by decide +kernel, fun h => by cases h⟩
theorem vs_X6_55 : mm_VS RX6 55 6 yX6_changeSize cX6_changeSize 3 (Option.some Jvm.ClassFile.FieldType.int) 1 := ⟨⟨TX6, 4, rfl⟩, mw_245, mw_247, List.mem_of_getElem? (i := 1) (by decide +kernel), by decide +kernel, mw_1, mw_248, by decide +kernel⟩
theorem vs_X6_59 : mm_VS RX6 59 6 yX6_changeLoss cX6_changeLoss 3 (Option.some Jvm.ClassFile.FieldType.int) 1 := ⟨⟨TX6, 4, rfl⟩, mw_258, mw_260, List.mem_of_getElem? (i := 2) (by decide +kernel), by decide +kernel, mw_1, mw_261, by decide +kernel⟩
theorem fs_X5_15 : mm_FS RX5 15 5 1 := ⟨RX5, TX5, 2, rfl, by decide, iw_5, mw_178⟩
theorem fs_X5_9 : mm_FS RX5 9 5 0 := ⟨RX5, TX5, 2, rfl, by decide, iw_5, mw_177⟩
theorem ss_X5_19 : mm_SS RX5 19 yX5_isDigit cX5_isDigit 1 (Option.some Jvm.ClassFile.FieldType.boolean) 1 := ⟨mw_577, mw_578, mw_8, mw_579, by decide +kernel⟩
theorem mc_min : Cond.code Lib.Math.min.name Lib.Math.min.code 2 (some .int) ∈ mm_gw := mm_gwI 323 (by decide +kernel) (by decide +kernel)
theorem vs_X1_47 : mm_VS RX1 47 5 yX5_readShades cX5_readShades 5 (Option.some Jvm.ClassFile.FieldType.int) 1 := ⟨⟨TX5, 2, rfl⟩, mw_634, mw_635, List.mem_of_getElem? (i := 649) (by decide +kernel), by decide +kernel, mw_8, mw_637, by decide +kernel⟩
theorem fs_X6_29 : mm_FS RX6 29 6 3 := ⟨RX6, TX6, 4, rfl, by decide, iw_6, mw_189⟩
theorem vs_X6_62 : mm_VS RX6 62 5 yX5_firstFaultOrNone cX5_firstFaultOrNone 5 (Option.some Jvm.ClassFile.FieldType.int) 0 := ⟨⟨TX5, 2, rfl⟩, mw_573, mw_574, List.mem_of_getElem? (i := 588) (by decide +kernel), by decide +kernel, mw_8, mw_576, by decide +kernel⟩
theorem vs_X6_65 : mm_VS RX6 65 1 yX1_takePattern cX1_takePattern 2 (Option.some Jvm.ClassFile.FieldType.int) 1 := ⟨⟨TX1, 6, rfl⟩, mw_630, mw_631, List.mem_of_getElem? (i := 645) (by decide +kernel), by decide +kernel, mw_3, mw_633, by decide +kernel⟩
theorem fs_X6_69 : mm_FS RX6 69 1 3 := ⟨RX1, TX1, 6, rfl, by decide, iw_1, mw_43⟩
theorem ps_X6_69 : mm_PS RX6 69 1 3 false .int := ⟨RX1, TX1, 6, tyX1, rfl, by decide, iw_1, mw_43, tyX1_ok, nmX1, rfl, by decide +kernel, fun h => by cases h⟩
theorem vs_X2_52 : mm_VS RX2 52 1 yX1_hasCell cX1_hasCell 3 (Option.some Jvm.ClassFile.FieldType.boolean) 2 := ⟨⟨TX1, 6, rfl⟩, mw_289, mw_271, List.mem_of_getElem? (i := 285) (by decide +kernel), by decide +kernel, mw_3, mw_273, by decide +kernel⟩
theorem vs_X2_56 : mm_VS RX2 56 2 yX2_laidOrNone cX2_laidOrNone 3 (Option.some Jvm.ClassFile.FieldType.int) 2 := ⟨⟨TX2, 4, rfl⟩, mw_285, mw_286, List.mem_of_getElem? (i := 300) (by decide +kernel), by decide +kernel, mw_2, mw_288, by decide +kernel⟩
