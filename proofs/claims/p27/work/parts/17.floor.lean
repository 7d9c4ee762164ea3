def ff_X6_init (sz : Nat) (M : mm_M) (x0 : Nat) : Option mm_M := Option.bind (mm_nO 2 [.null, .null, .null, .int 0] sz M) fun M1 => Option.bind (ff_X2_init (sz + 1) M1 sz) fun M2 => Option.bind (mm_pR 6 M2 x0 0 sz) fun M3 => Option.bind (mm_nO 2 [.null, .null, .null, .int 0] (sz + 28) M3) fun M4 => Option.bind (ff_X2_init (sz + 29) M4 (sz + 28)) fun M5 => Option.bind (mm_pR 6 M5 x0 1 (sz + 28)) fun M6 => Option.bind (mm_nO 0 [.null, .int 0] (sz + 56) M6) fun M7 => Option.bind (ff_X0_init (sz + 57) M7 (sz + 56)) fun M8 => Option.bind (mm_pR 6 M8 x0 2 (sz + 56)) fun M9 => Option.bind (mm_nO 5 [.null, .int 0] (sz + 198) M9) fun M10 => Option.bind (ff_X5_init (sz + 199) M10 (sz + 198)) fun M11 => Option.bind (mm_pR 6 M11 x0 3 (sz + 198)) fun M12 => some M12
def rm_X6_init : Room := { frames := 5, cells := 200, slots := 3904, locals := 106 }
set_option maxHeartbeats 4000000 in
set_option maxRecDepth 100000 in
theorem jj_X6_init (l : Launch) (g : mm_G) (A : Nat → Prop) (sz : Nat) (hAn : ∀ q, sz ≤ q → A q) (M : mm_M) (x0 : Nat) (M2 : mm_M) (hf : ff_X6_init sz M x0 = some M2) : Met l yX6_init (mm_ws yX6_init cX6_init 1 (Option.none : Option Jvm.ClassFile.FieldType)) rm_X6_init (va_Pc [.ref x0] (fun U => U.heap.size = sz ∧ mm_B g A M U)) (mm_Tz g A M2 (sz + 200)) 200 3904 A := by
  refine mm_met (g := g) (lv := [(0, .ref x0)]) (fun U h => h.2.2) (by decide +kernel) (Nat.le_of_ble_eq_true rfl) rfl ?_
  intro p e s m args below meth c ls C hr hnm hB hl
  obtain ⟨hs0, hR, hK⟩ := hB
  have hz : sz ≤ s.heap.size := Nat.le_of_eq hs0.symm
  have hx := C.1
  have hb := C.2.1
  suffices hmain : ∀ (H : Heap) (locs : List Loc), mm_R g A M H → va_S A s.heap H locs → sz ≤ H.size → W p l e rm_X6_init s m args below meth c H locs 0 0 (MQ below (mm_Tz g A M2 (sz + 200)) args s 200 3904 A) (F0 m 0 ls []) from hmain _ _ hR va_S.rf hz
  clear hR hz
  intro H locs hR hS hz
  unfold ff_X6_init at hf
  refine lv_aload_n hx hb dX6_init_0 rfl (lv_at hl 0 rfl) ?_
  refine mm_obj C hl.1 mw_16 mw_17 oc_i (Nat.le_of_ble_eq_true rfl) (Nat.le_of_ble_eq_true rfl) dX6_init_1 ?_
  refine lv_aload_n hx hb dX6_init_4 rfl (lv_at hl 0 rfl) ?_
  obtain ⟨M1, eM1, hf⟩ := mm_bd hf
  refine mm_newOx (z := sz) (cells := 0) (slots := 0) C hR hS hs0 hAn hz rfl (sz + 1) 1 4 rfl rfl rfl tyX2 rfl iw_2 tyX2_ok mw_19 mw_20 mw_2 df_2 (Nat.le_of_ble_eq_true rfl) (Nat.le_of_ble_eq_true rfl) eM1 dX6_init_5 (fun H hz hR hS => ?_)
  refine lv_dup hx hb dX6_init_8 rfl ?_
  obtain ⟨M2, eM2, hf⟩ := mm_bd hf
  refine mm_callIx (As := []) (rest := [.ref sz, .ref x0]) (cells := 1) (slots := 4) (sz := (sz + 1)) C hR hS hl.1 hs0 hz rfl (sz + 28) 28 545 (by omega) rfl rfl is_X6_9 (jj_X2_init l g A (sz + 1) (fun q h => hAn q (by omega)) M1 sz M2 eM2) ⟨rfl, rfl, (Nat.le_of_ble_eq_true rfl), (Nat.le_of_ble_eq_true rfl)⟩ rfl (Nat.le_of_ble_eq_true rfl) ⟨(Nat.le_of_ble_eq_true rfl), (Nat.le_of_ble_eq_true rfl)⟩ rfl dX6_init_9 (fun H locs hz hR hS => ?_)
  obtain ⟨M3, eM3, hf⟩ := mm_bd hf
  refine mm_putRz C hR hS hnm ps_X6_10 (fun v => ⟨rfl, rfl⟩) eM3 dX6_init_12 hz (fun H locs hz hR hS => ?_)
  refine lv_aload_n hx hb dX6_init_15 rfl (lv_at hl 0 rfl) ?_
  obtain ⟨M4, eM4, hf⟩ := mm_bd hf
  refine mm_newOx (z := (sz + 28)) (cells := 28) (slots := 545) C hR hS hs0 hAn hz rfl (sz + 29) 29 549 rfl rfl rfl tyX2 rfl iw_2 tyX2_ok mw_19 mw_20 mw_2 df_2 (Nat.le_of_ble_eq_true rfl) (Nat.le_of_ble_eq_true rfl) eM4 dX6_init_16 (fun H hz hR hS => ?_)
  refine lv_dup hx hb dX6_init_19 rfl ?_
  obtain ⟨M5, eM5, hf⟩ := mm_bd hf
  refine mm_callIx (As := []) (rest := [.ref (sz + 28), .ref x0]) (cells := 29) (slots := 549) (sz := (sz + 29)) C hR hS hl.1 hs0 hz rfl (sz + 56) 56 1090 (by omega) rfl rfl is_X6_9 (jj_X2_init l g A (sz + 29) (fun q h => hAn q (by omega)) M4 (sz + 28) M5 eM5) ⟨rfl, rfl, (Nat.le_of_ble_eq_true rfl), (Nat.le_of_ble_eq_true rfl)⟩ rfl (Nat.le_of_ble_eq_true rfl) ⟨(Nat.le_of_ble_eq_true rfl), (Nat.le_of_ble_eq_true rfl)⟩ rfl dX6_init_20 (fun H locs hz hR hS => ?_)
  obtain ⟨M6, eM6, hf⟩ := mm_bd hf
  refine mm_putRz C hR hS hnm ps_X6_16 (fun v => ⟨rfl, rfl⟩) eM6 dX6_init_23 hz (fun H locs hz hR hS => ?_)
  refine lv_aload_n hx hb dX6_init_26 rfl (lv_at hl 0 rfl) ?_
  obtain ⟨M7, eM7, hf⟩ := mm_bd hf
  refine mm_newOx (z := (sz + 56)) (cells := 56) (slots := 1090) C hR hS hs0 hAn hz rfl (sz + 57) 57 1092 rfl rfl rfl tyX0 rfl iw_0 tyX0_ok mw_155 mw_156 mw_7 df_0 (Nat.le_of_ble_eq_true rfl) (Nat.le_of_ble_eq_true rfl) eM7 dX6_init_27 (fun H hz hR hS => ?_)
  refine lv_dup hx hb dX6_init_30 rfl ?_
  obtain ⟨M8, eM8, hf⟩ := mm_bd hf
  refine mm_callIx (As := []) (rest := [.ref (sz + 56), .ref x0]) (cells := 57) (slots := 1092) (sz := (sz + 57)) C hR hS hl.1 hs0 hz rfl (sz + 198) 198 3822 (by omega) rfl rfl is_X6_21 (jj_X0_init l g A (sz + 57) (fun q h => hAn q (by omega)) M7 (sz + 56) M8 eM8) ⟨rfl, rfl, (Nat.le_of_ble_eq_true rfl), (Nat.le_of_ble_eq_true rfl)⟩ rfl (Nat.le_of_ble_eq_true rfl) ⟨(Nat.le_of_ble_eq_true rfl), (Nat.le_of_ble_eq_true rfl)⟩ rfl dX6_init_31 (fun H locs hz hR hS => ?_)
  obtain ⟨M9, eM9, hf⟩ := mm_bd hf
  refine mm_putRz C hR hS hnm ps_X6_22 (fun v => ⟨rfl, rfl⟩) eM9 dX6_init_34 hz (fun H locs hz hR hS => ?_)
  refine lv_aload_n hx hb dX6_init_37 rfl (lv_at hl 0 rfl) ?_
  obtain ⟨M10, eM10, hf⟩ := mm_bd hf
  refine mm_newOx (z := (sz + 198)) (cells := 198) (slots := 3822) C hR hS hs0 hAn hz rfl (sz + 199) 199 3824 rfl rfl rfl tyX5 rfl iw_5 tyX5_ok mw_171 mw_172 mw_8 df_5 (Nat.le_of_ble_eq_true rfl) (Nat.le_of_ble_eq_true rfl) eM10 dX6_init_38 (fun H hz hR hS => ?_)
  refine lv_dup hx hb dX6_init_41 rfl ?_
  obtain ⟨M11, eM11, hf⟩ := mm_bd hf
  refine mm_callINx (As := []) (rest := [.ref (sz + 198), .ref x0]) (cells := 199) (slots := 3824) (sz := (sz + 199)) C hR hS hl.1 hs0 hz rfl (sz + 200) 200 3904 (by omega) rfl rfl C.2.2.2.2.2.1.2.2.1 in_X6_28 (jj_X5_init l g A (sz + 199) (fun q h => hAn q (by omega)) M10 (sz + 198) M11 eM11) ⟨rfl, rfl, (Nat.le_of_ble_eq_true rfl), (Nat.le_of_ble_eq_true rfl)⟩ rfl (Nat.le_of_ble_eq_true rfl) ⟨(Nat.le_of_ble_eq_true rfl), (Nat.le_of_ble_eq_true rfl)⟩ rfl dX6_init_42 (fun H locs hz hR hS => ?_)
  obtain ⟨M12, eM12, hf⟩ := mm_bd hf
  refine mm_putRz C hR hS hnm ps_X6_29 (fun v => ⟨rfl, rfl⟩) eM12 dX6_init_45 hz (fun H locs hz hR hS => ?_)
  exact mm_vrz C hR hS hr (Option.some.inj hf) hs0 hz rfl dX6_init_48
def ff_X6_floor (M : mm_M) (x0 : Nat) (x1 : Int32) (x2 : Int32) : Option ((Int32 × mm_M)) := Option.bind (ff_X6_isWithin M x1 (3 : Int32) (12 : Int32)) fun v1 => if v1 = (0 : Int32) then (some ((-1 : Int32), M)) else (Option.bind (ff_X6_isWithin M x2 (3 : Int32) (12 : Int32)) fun v2 => if v2 = (0 : Int32) then (some ((-1 : Int32), M)) else (Option.bind (mm_gR 6 M x0 0) fun v3 => Option.bind (mm_ck 2 M v3) fun u4 => Option.bind (ff_X2_laidCells M v3) fun v5 => if v5 ≤ (0 : Int32) then (Option.bind (mm_gR 6 M x0 2) fun v6 => Option.bind (mm_gR 6 M x0 0) fun v7 => Option.bind (mm_ck 0 M v6) fun u8 => Option.bind (ff_X0_keep M v6 v7) fun M9 => Option.bind (mm_gR 6 M9 x0 0) fun v10 => Option.bind (mm_gR 2 M9 v10 0) fun v11 => Option.bind (mm_ck 1 M9 v11) fun u12 => Option.bind (ff_X1_begin M9 v11 x1 x2) fun M13 => some ((x1 * x2), M13)) else (some ((-2 : Int32), M))))
def rm_X6_floor : Room := { frames := 5, cells := 0, slots := 0, locals := 111 }
set_option maxHeartbeats 4000000 in
set_option maxRecDepth 100000 in
theorem jj_X6_floor (l : Launch) (g : mm_G) (A : Nat → Prop) (M : mm_M) (x0 : Nat) (x1 : Int32) (x2 : Int32) (r : Int32) (M2 : mm_M) (hf : ff_X6_floor M x0 x1 x2 = some (r, M2)) : Met l yX6_floor (mm_ws yX6_floor cX6_floor 3 (Option.some Jvm.ClassFile.FieldType.int)) rm_X6_floor (va_Pc [.ref x0, .int x1, .int x2] (mm_B g A M)) (mm_Ti g A r M2) 0 0 A := by
  refine mm_met (g := g) (lv := [(0, .ref x0), (1, .int x1), (2, .int x2)]) (fun U h => h.2) (by decide +kernel) (Nat.le_of_ble_eq_true rfl) rfl ?_
  intro p e s m args below meth c ls C hr hnm hB hl
  obtain ⟨hR, hK⟩ := hB
  have hx := C.1
  have hb := C.2.1
  suffices hmain : ∀ (H : Heap) (locs : List Loc), mm_R g A M H → va_S A s.heap H locs → W p l e rm_X6_floor s m args below meth c H locs 0 0 (MQ below (mm_Ti g A r M2) args s 0 0 A) (F0 m 0 ls []) from hmain _ _ hR va_S.rf
  clear hR
  intro H locs hR hS
  unfold ff_X6_floor at hf
  refine lv_iload_n hx hb dX6_floor_0 rfl (lv_at hl 1 rfl) ?_
  refine lv_iconst (v := 3) hx hb dX6_floor_1 (by decide) ?_
  refine lv_bipush (v := 12) hx hb dX6_floor_2 (by decide) ?_
  obtain ⟨v1, ev1, hf⟩ := mm_bd hf
  refine mm_callSi (As := [.int x1, .int (3 : Int32), .int (12 : Int32)]) (rest := []) C hR hS hl.1 ss_X6_33 (jj_X6_isWithin l g A M x1 (3 : Int32) (12 : Int32) v1 ev1) ⟨rfl, rfl, (Nat.le_of_ble_eq_true rfl), (Nat.le_of_ble_eq_true rfl)⟩ rfl (Nat.le_of_ble_eq_true rfl) ⟨Nat.zero_le _, Nat.zero_le _⟩ rfl dX6_floor_4 (fun H locs hR hS => ?_)
  refine lv_if_eq (tgt := 20) hx hb dX6_floor_7 (by decide) (fun hc => ?_) (fun hc => ?_)
  · have hf := mm_if1 hc hf
    refine lv_iconst (v := -1) hx hb dX6_floor_20 (by decide) ?_
    exact mm_ire C hR hS hr ((mm_pe hf).1) (mm_pe hf).2 dX6_floor_21
  · have hf := mm_if0 hc hf
    refine lv_iload_n hx hb dX6_floor_10 rfl (lv_at hl 2 rfl) ?_
    refine lv_iconst (v := 3) hx hb dX6_floor_11 (by decide) ?_
    refine lv_bipush (v := 12) hx hb dX6_floor_12 (by decide) ?_
    obtain ⟨v2, ev2, hf⟩ := mm_bd hf
    refine mm_callSi (As := [.int x2, .int (3 : Int32), .int (12 : Int32)]) (rest := []) C hR hS hl.1 ss_X6_33 (jj_X6_isWithin l g A M x2 (3 : Int32) (12 : Int32) v2 ev2) ⟨rfl, rfl, (Nat.le_of_ble_eq_true rfl), (Nat.le_of_ble_eq_true rfl)⟩ rfl (Nat.le_of_ble_eq_true rfl) ⟨Nat.zero_le _, Nat.zero_le _⟩ rfl dX6_floor_14 (fun H locs hR hS => ?_)
    refine lv_if_ne (tgt := 22) hx hb dX6_floor_17 (by decide) (fun hc => ?_) (fun hc => ?_)
    · have hf := mm_if0 hc hf
      refine lv_aload_n hx hb dX6_floor_22 rfl (lv_at hl 0 rfl) ?_
      obtain ⟨v3, ev3, hf⟩ := mm_bd hf
      refine mm_getR C hR fs_X6_10 ev3 dX6_floor_23 ?_
      obtain ⟨u4, eu4, hf⟩ := mm_bd hf
      obtain ⟨v5, ev5, hf⟩ := mm_bd hf
      refine mm_callVi (As := []) (rest := []) C hR hS hl.1 vs_X6_37 eu4 (jj_X2_laidCells l g A M v3 v5 ev5) ⟨rfl, rfl, (Nat.le_of_ble_eq_true rfl), (Nat.le_of_ble_eq_true rfl)⟩ rfl (Nat.le_of_ble_eq_true rfl) ⟨Nat.zero_le _, Nat.zero_le _⟩ rfl dX6_floor_26 (fun H locs hR hS => ?_)
      refine lv_if_le (tgt := 35) hx hb dX6_floor_29 (by decide) (fun hc => ?_) (fun hc => ?_)
      · have hf := mm_if1 hc hf
        refine lv_aload_n hx hb dX6_floor_35 rfl (lv_at hl 0 rfl) ?_
        obtain ⟨v6, ev6, hf⟩ := mm_bd hf
        refine mm_getR C hR fs_X6_22 ev6 dX6_floor_36 ?_
        refine lv_aload_n hx hb dX6_floor_39 rfl (lv_at hl 0 rfl) ?_
        obtain ⟨v7, ev7, hf⟩ := mm_bd hf
        refine mm_getR C hR fs_X6_10 ev7 dX6_floor_40 ?_
        obtain ⟨u8, eu8, hf⟩ := mm_bd hf
        obtain ⟨M9, eM9, hf⟩ := mm_bd hf
        refine mm_callVv (As := [.ref v7]) (rest := []) C hR hS hl.1 vs_X6_41 eu8 (jj_X0_keep l g A M v6 v7 M9 eM9) ⟨rfl, rfl, (Nat.le_of_ble_eq_true rfl), (Nat.le_of_ble_eq_true rfl)⟩ rfl (Nat.le_of_ble_eq_true rfl) ⟨Nat.zero_le _, Nat.zero_le _⟩ rfl dX6_floor_43 (fun H locs hR hS => ?_)
        refine lv_aload_n hx hb dX6_floor_46 rfl (lv_at hl 0 rfl) ?_
        obtain ⟨v10, ev10, hf⟩ := mm_bd hf
        refine mm_getR C hR fs_X6_10 ev10 dX6_floor_47 ?_
        obtain ⟨v11, ev11, hf⟩ := mm_bd hf
        refine mm_getR C hR fs_X6_45 ev11 dX6_floor_50 ?_
        refine lv_iload_n hx hb dX6_floor_53 rfl (lv_at hl 1 rfl) ?_
        refine lv_iload_n hx hb dX6_floor_54 rfl (lv_at hl 2 rfl) ?_
        obtain ⟨u12, eu12, hf⟩ := mm_bd hf
        obtain ⟨M13, eM13, hf⟩ := mm_bd hf
        refine mm_callVv (As := [.int x1, .int x2]) (rest := []) C hR hS hl.1 vs_X6_49 eu12 (jj_X1_begin l g A M9 v11 x1 x2 M13 eM13) ⟨rfl, rfl, (Nat.le_of_ble_eq_true rfl), (Nat.le_of_ble_eq_true rfl)⟩ rfl (Nat.le_of_ble_eq_true rfl) ⟨Nat.zero_le _, Nat.zero_le _⟩ rfl dX6_floor_55 (fun H locs hR hS => ?_)
        refine lv_iload_n hx hb dX6_floor_58 rfl (lv_at hl 1 rfl) ?_
        refine lv_iload_n hx hb dX6_floor_59 rfl (lv_at hl 2 rfl) ?_
        refine lv_imul hx hb dX6_floor_60 ?_
        exact mm_ire C hR hS hr ((mm_pe hf).1) (mm_pe hf).2 dX6_floor_61
      · have hf := mm_if0 hc hf
        refine lv_bipush (v := -2) hx hb dX6_floor_32 (by decide) ?_
        exact mm_ire C hR hS hr ((mm_pe hf).1) (mm_pe hf).2 dX6_floor_34
    · have hf := mm_if1 hc hf
      refine lv_iconst (v := -1) hx hb dX6_floor_20 (by decide) ?_
      exact mm_ire C hR hS hr ((mm_pe hf).1) (mm_pe hf).2 dX6_floor_21
def ff_X6_changeSize (M : mm_M) (x0 : Nat) (x1 : Int32) : Option ((Int32 × mm_M)) := Option.bind (ff_X6_isWithin M x1 (5 : Int32) (60 : Int32)) fun v1 => if v1 = (0 : Int32) then (some ((-1 : Int32), M)) else (Option.bind (mm_gR 6 M x0 0) fun v2 => Option.bind (mm_ck 2 M v2) fun u3 => Option.bind (ff_X2_laidCells M v2) fun v4 => if v4 ≤ (0 : Int32) then (Option.bind (mm_gR 6 M x0 2) fun v5 => Option.bind (mm_gR 6 M x0 0) fun v6 => Option.bind (mm_ck 0 M v5) fun u7 => Option.bind (ff_X0_keep M v5 v6) fun M8 => Option.bind (mm_gR 6 M8 x0 0) fun v9 => Option.bind (mm_gR 2 M8 v9 1) fun v10 => Option.bind (mm_gI 3 M8 v10 3) fun v11 => Option.bind (mm_gR 6 M8 x0 0) fun v12 => Option.bind (mm_gR 2 M8 v12 1) fun v13 => Option.bind (mm_ck 3 M8 v13) fun u14 => Option.bind (ff_X3_throwAway M8 v13) fun M15 => Option.bind (mm_gR 6 M15 x0 0) fun v16 => Option.bind (mm_gR 2 M15 v16 1) fun v17 => Option.bind (mm_pI 3 M15 v17 3 x1) fun M18 => some (v11, M18)) else (some ((-2 : Int32), M)))
def rm_X6_changeSize : Room := { frames := 5, cells := 0, slots := 0, locals := 111 }
set_option maxHeartbeats 4000000 in
set_option maxRecDepth 100000 in
theorem jj_X6_changeSize (l : Launch) (g : mm_G) (A : Nat → Prop) (M : mm_M) (x0 : Nat) (x1 : Int32) (r : Int32) (M2 : mm_M) (hf : ff_X6_changeSize M x0 x1 = some (r, M2)) : Met l yX6_changeSize (mm_ws yX6_changeSize cX6_changeSize 3 (Option.some Jvm.ClassFile.FieldType.int)) rm_X6_changeSize (va_Pc [.ref x0, .int x1] (mm_B g A M)) (mm_Ti g A r M2) 0 0 A := by
  refine mm_met (g := g) (lv := [(0, .ref x0), (1, .int x1)]) (fun U h => h.2) (by decide +kernel) (Nat.le_of_ble_eq_true rfl) rfl ?_
  intro p e s m args below meth c ls C hr hnm hB hl
  obtain ⟨hR, hK⟩ := hB
  have hx := C.1
  have hb := C.2.1
  suffices hmain : ∀ (H : Heap) (locs : List Loc), mm_R g A M H → va_S A s.heap H locs → W p l e rm_X6_changeSize s m args below meth c H locs 0 0 (MQ below (mm_Ti g A r M2) args s 0 0 A) (F0 m 0 ls []) from hmain _ _ hR va_S.rf
  clear hR
  intro H locs hR hS
  unfold ff_X6_changeSize at hf
  refine lv_iload_n hx hb dX6_changeSize_0 rfl (lv_at hl 1 rfl) ?_
  refine lv_iconst (v := 5) hx hb dX6_changeSize_1 (by decide) ?_
  refine lv_bipush (v := 60) hx hb dX6_changeSize_2 (by decide) ?_
  obtain ⟨v1, ev1, hf⟩ := mm_bd hf
  refine mm_callSi (As := [.int x1, .int (5 : Int32), .int (60 : Int32)]) (rest := []) C hR hS hl.1 ss_X6_33 (jj_X6_isWithin l g A M x1 (5 : Int32) (60 : Int32) v1 ev1) ⟨rfl, rfl, (Nat.le_of_ble_eq_true rfl), (Nat.le_of_ble_eq_true rfl)⟩ rfl (Nat.le_of_ble_eq_true rfl) ⟨Nat.zero_le _, Nat.zero_le _⟩ rfl dX6_changeSize_4 (fun H locs hR hS => ?_)
  refine lv_if_ne (tgt := 12) hx hb dX6_changeSize_7 (by decide) (fun hc => ?_) (fun hc => ?_)
  · have hf := mm_if0 hc hf
    refine lv_aload_n hx hb dX6_changeSize_12 rfl (lv_at hl 0 rfl) ?_
    obtain ⟨v2, ev2, hf⟩ := mm_bd hf
    refine mm_getR C hR fs_X6_10 ev2 dX6_changeSize_13 ?_
    obtain ⟨u3, eu3, hf⟩ := mm_bd hf
    obtain ⟨v4, ev4, hf⟩ := mm_bd hf
    refine mm_callVi (As := []) (rest := []) C hR hS hl.1 vs_X6_37 eu3 (jj_X2_laidCells l g A M v2 v4 ev4) ⟨rfl, rfl, (Nat.le_of_ble_eq_true rfl), (Nat.le_of_ble_eq_true rfl)⟩ rfl (Nat.le_of_ble_eq_true rfl) ⟨Nat.zero_le _, Nat.zero_le _⟩ rfl dX6_changeSize_16 (fun H locs hR hS => ?_)
    refine lv_if_le (tgt := 25) hx hb dX6_changeSize_19 (by decide) (fun hc => ?_) (fun hc => ?_)
    · have hf := mm_if1 hc hf
      refine lv_aload_n hx hb dX6_changeSize_25 rfl (lv_at hl 0 rfl) ?_
      obtain ⟨v5, ev5, hf⟩ := mm_bd hf
      refine mm_getR C hR fs_X6_22 ev5 dX6_changeSize_26 ?_
      refine lv_aload_n hx hb dX6_changeSize_29 rfl (lv_at hl 0 rfl) ?_
      obtain ⟨v6, ev6, hf⟩ := mm_bd hf
      refine mm_getR C hR fs_X6_10 ev6 dX6_changeSize_30 ?_
      obtain ⟨u7, eu7, hf⟩ := mm_bd hf
      obtain ⟨M8, eM8, hf⟩ := mm_bd hf
      refine mm_callVv (As := [.ref v6]) (rest := []) C hR hS hl.1 vs_X6_41 eu7 (jj_X0_keep l g A M v5 v6 M8 eM8) ⟨rfl, rfl, (Nat.le_of_ble_eq_true rfl), (Nat.le_of_ble_eq_true rfl)⟩ rfl (Nat.le_of_ble_eq_true rfl) ⟨Nat.zero_le _, Nat.zero_le _⟩ rfl dX6_changeSize_33 (fun H locs hR hS => ?_)
      refine lv_aload_n hx hb dX6_changeSize_36 rfl (lv_at hl 0 rfl) ?_
      obtain ⟨v9, ev9, hf⟩ := mm_bd hf
      refine mm_getR C hR fs_X6_10 ev9 dX6_changeSize_37 ?_
      obtain ⟨v10, ev10, hf⟩ := mm_bd hf
      refine mm_getR C hR fs_X6_125 ev10 dX6_changeSize_40 ?_
      obtain ⟨v11, ev11, hf⟩ := mm_bd hf
      refine mm_getI C hR fs_X6_162 ev11 dX6_changeSize_43 ?_
      refine lv_istore_n (lv' := [(2, .int v11), (0, .ref x0), (1, .int x1)]) hx hb dX6_changeSize_46 rfl hl (by decide) rfl (fun ls hl => ?_)
      refine lv_aload_n hx hb dX6_changeSize_47 rfl (lv_at hl 1 rfl) ?_
      obtain ⟨v12, ev12, hf⟩ := mm_bd hf
      refine mm_getR C hR fs_X6_10 ev12 dX6_changeSize_48 ?_
      obtain ⟨v13, ev13, hf⟩ := mm_bd hf
      refine mm_getR C hR fs_X6_125 ev13 dX6_changeSize_51 ?_
      obtain ⟨u14, eu14, hf⟩ := mm_bd hf
      obtain ⟨M15, eM15, hf⟩ := mm_bd hf
      refine mm_callVv (As := []) (rest := []) C hR hS hl.1 vs_X6_217 eu14 (jj_X3_throwAway l g A M8 v13 M15 eM15) ⟨rfl, rfl, (Nat.le_of_ble_eq_true rfl), (Nat.le_of_ble_eq_true rfl)⟩ rfl (Nat.le_of_ble_eq_true rfl) ⟨Nat.zero_le _, Nat.zero_le _⟩ rfl dX6_changeSize_54 (fun H locs hR hS => ?_)
      refine lv_aload_n hx hb dX6_changeSize_57 rfl (lv_at hl 1 rfl) ?_
      obtain ⟨v16, ev16, hf⟩ := mm_bd hf
      refine mm_getR C hR fs_X6_10 ev16 dX6_changeSize_58 ?_
      obtain ⟨v17, ev17, hf⟩ := mm_bd hf
      refine mm_getR C hR fs_X6_125 ev17 dX6_changeSize_61 ?_
      refine lv_iload_n hx hb dX6_changeSize_64 rfl (lv_at hl 2 rfl) ?_
      obtain ⟨M18, eM18, hf⟩ := mm_bd hf
      refine mm_putI C hR hS ps_X6_162 eM18 dX6_changeSize_65 (fun H locs hR hS => ?_)
      refine lv_iload_n hx hb dX6_changeSize_68 rfl (lv_at hl 0 rfl) ?_
      exact mm_ire C hR hS hr ((mm_pe hf).1) (mm_pe hf).2 dX6_changeSize_69
    · have hf := mm_if0 hc hf
      refine lv_bipush (v := -2) hx hb dX6_changeSize_22 (by decide) ?_
      exact mm_ire C hR hS hr ((mm_pe hf).1) (mm_pe hf).2 dX6_changeSize_24
  · have hf := mm_if1 hc hf
    refine lv_iconst (v := -1) hx hb dX6_changeSize_10 (by decide) ?_
    exact mm_ire C hR hS hr ((mm_pe hf).1) (mm_pe hf).2 dX6_changeSize_11
def ff_X6_changeLoss (M : mm_M) (x0 : Nat) (x1 : Int32) : Option ((Int32 × mm_M)) := Option.bind (ff_X6_isWithin M x1 (0 : Int32) (5 : Int32)) fun v1 => if v1 = (0 : Int32) then (some ((-1 : Int32), M)) else (Option.bind (mm_gR 6 M x0 2) fun v2 => Option.bind (mm_gR 6 M x0 0) fun v3 => Option.bind (mm_ck 0 M v2) fun u4 => Option.bind (ff_X0_keep M v2 v3) fun M5 => Option.bind (mm_gR 6 M5 x0 0) fun v6 => Option.bind (mm_gR 2 M5 v6 1) fun v7 => Option.bind (mm_gI 3 M5 v7 4) fun v8 => Option.bind (mm_gR 6 M5 x0 0) fun v9 => Option.bind (mm_gR 2 M5 v9 1) fun v10 => Option.bind (mm_pI 3 M5 v10 4 x1) fun M11 => some (v8, M11))
def rm_X6_changeLoss : Room := { frames := 5, cells := 0, slots := 0, locals := 111 }
set_option maxHeartbeats 4000000 in
set_option maxRecDepth 100000 in
theorem jj_X6_changeLoss (l : Launch) (g : mm_G) (A : Nat → Prop) (M : mm_M) (x0 : Nat) (x1 : Int32) (r : Int32) (M2 : mm_M) (hf : ff_X6_changeLoss M x0 x1 = some (r, M2)) : Met l yX6_changeLoss (mm_ws yX6_changeLoss cX6_changeLoss 3 (Option.some Jvm.ClassFile.FieldType.int)) rm_X6_changeLoss (va_Pc [.ref x0, .int x1] (mm_B g A M)) (mm_Ti g A r M2) 0 0 A := by
  refine mm_met (g := g) (lv := [(0, .ref x0), (1, .int x1)]) (fun U h => h.2) (by decide +kernel) (Nat.le_of_ble_eq_true rfl) rfl ?_
  intro p e s m args below meth c ls C hr hnm hB hl
  obtain ⟨hR, hK⟩ := hB
  have hx := C.1
  have hb := C.2.1
  suffices hmain : ∀ (H : Heap) (locs : List Loc), mm_R g A M H → va_S A s.heap H locs → W p l e rm_X6_changeLoss s m args below meth c H locs 0 0 (MQ below (mm_Ti g A r M2) args s 0 0 A) (F0 m 0 ls []) from hmain _ _ hR va_S.rf
  clear hR
  intro H locs hR hS
  unfold ff_X6_changeLoss at hf
  refine lv_iload_n hx hb dX6_changeLoss_0 rfl (lv_at hl 1 rfl) ?_
  refine lv_iconst (v := 0) hx hb dX6_changeLoss_1 (by decide) ?_
  refine lv_iconst (v := 5) hx hb dX6_changeLoss_2 (by decide) ?_
  obtain ⟨v1, ev1, hf⟩ := mm_bd hf
  refine mm_callSi (As := [.int x1, .int (0 : Int32), .int (5 : Int32)]) (rest := []) C hR hS hl.1 ss_X6_33 (jj_X6_isWithin l g A M x1 (0 : Int32) (5 : Int32) v1 ev1) ⟨rfl, rfl, (Nat.le_of_ble_eq_true rfl), (Nat.le_of_ble_eq_true rfl)⟩ rfl (Nat.le_of_ble_eq_true rfl) ⟨Nat.zero_le _, Nat.zero_le _⟩ rfl dX6_changeLoss_3 (fun H locs hR hS => ?_)
  refine lv_if_ne (tgt := 11) hx hb dX6_changeLoss_6 (by decide) (fun hc => ?_) (fun hc => ?_)
  · have hf := mm_if0 hc hf
    refine lv_aload_n hx hb dX6_changeLoss_11 rfl (lv_at hl 0 rfl) ?_
    obtain ⟨v2, ev2, hf⟩ := mm_bd hf
    refine mm_getR C hR fs_X6_22 ev2 dX6_changeLoss_12 ?_
    refine lv_aload_n hx hb dX6_changeLoss_15 rfl (lv_at hl 0 rfl) ?_
    obtain ⟨v3, ev3, hf⟩ := mm_bd hf
    refine mm_getR C hR fs_X6_10 ev3 dX6_changeLoss_16 ?_
    obtain ⟨u4, eu4, hf⟩ := mm_bd hf
    obtain ⟨M5, eM5, hf⟩ := mm_bd hf
    refine mm_callVv (As := [.ref v3]) (rest := []) C hR hS hl.1 vs_X6_41 eu4 (jj_X0_keep l g A M v2 v3 M5 eM5) ⟨rfl, rfl, (Nat.le_of_ble_eq_true rfl), (Nat.le_of_ble_eq_true rfl)⟩ rfl (Nat.le_of_ble_eq_true rfl) ⟨Nat.zero_le _, Nat.zero_le _⟩ rfl dX6_changeLoss_19 (fun H locs hR hS => ?_)
    refine lv_aload_n hx hb dX6_changeLoss_22 rfl (lv_at hl 0 rfl) ?_
    obtain ⟨v6, ev6, hf⟩ := mm_bd hf
    refine mm_getR C hR fs_X6_10 ev6 dX6_changeLoss_23 ?_
    obtain ⟨v7, ev7, hf⟩ := mm_bd hf
    refine mm_getR C hR fs_X6_125 ev7 dX6_changeLoss_26 ?_
    obtain ⟨v8, ev8, hf⟩ := mm_bd hf
    refine mm_getI C hR fs_X6_172 ev8 dX6_changeLoss_29 ?_
    refine lv_istore_n (lv' := [(2, .int v8), (0, .ref x0), (1, .int x1)]) hx hb dX6_changeLoss_32 rfl hl (by decide) rfl (fun ls hl => ?_)
    refine lv_aload_n hx hb dX6_changeLoss_33 rfl (lv_at hl 1 rfl) ?_
    obtain ⟨v9, ev9, hf⟩ := mm_bd hf
    refine mm_getR C hR fs_X6_10 ev9 dX6_changeLoss_34 ?_
    obtain ⟨v10, ev10, hf⟩ := mm_bd hf
    refine mm_getR C hR fs_X6_125 ev10 dX6_changeLoss_37 ?_
    refine lv_iload_n hx hb dX6_changeLoss_40 rfl (lv_at hl 2 rfl) ?_
    obtain ⟨M11, eM11, hf⟩ := mm_bd hf
    refine mm_putI C hR hS ps_X6_172 eM11 dX6_changeLoss_41 (fun H locs hR hS => ?_)
    refine lv_iload_n hx hb dX6_changeLoss_44 rfl (lv_at hl 0 rfl) ?_
    exact mm_ire C hR hS hr ((mm_pe hf).1) (mm_pe hf).2 dX6_changeLoss_45
  · have hf := mm_if1 hc hf
    refine lv_iconst (v := -1) hx hb dX6_changeLoss_9 (by decide) ?_
    exact mm_ire C hR hS hr ((mm_pe hf).1) (mm_pe hf).2 dX6_changeLoss_10
def ff_X6_set (M : mm_M) (x0 : Nat) (x1 : Int32) (x2 : Int32) : Option ((Int32 × mm_M)) := if x1 = (0 : Int32) then (Option.bind (mm_ck 6 M x0) fun u2 => Option.bind (ff_X6_changeSize M x0 x2) (mm_u2 fun v3 M4 => some (v3, M4))) else (if x1 = (1 : Int32) then (Option.bind (mm_ck 6 M x0) fun u6 => Option.bind (ff_X6_changeLoss M x0 x2) (mm_u2 fun v7 M8 => some (v7, M8))) else (some ((-1 : Int32), M)))
def rm_X6_set : Room := { frames := 6, cells := 0, slots := 0, locals := 133 }
set_option maxHeartbeats 4000000 in
set_option maxRecDepth 100000 in
theorem jj_X6_set (l : Launch) (g : mm_G) (A : Nat → Prop) (M : mm_M) (x0 : Nat) (x1 : Int32) (x2 : Int32) (r : Int32) (M2 : mm_M) (hf : ff_X6_set M x0 x1 x2 = some (r, M2)) : Met l yX6_set (mm_ws yX6_set cX6_set 3 (Option.some Jvm.ClassFile.FieldType.int)) rm_X6_set (va_Pc [.ref x0, .int x1, .int x2] (mm_B g A M)) (mm_Ti g A r M2) 0 0 A := by
  refine mm_met (g := g) (lv := [(0, .ref x0), (1, .int x1), (2, .int x2)]) (fun U h => h.2) (by decide +kernel) (Nat.le_of_ble_eq_true rfl) rfl ?_
  intro p e s m args below meth c ls C hr hnm hB hl
  obtain ⟨hR, hK⟩ := hB
  have hx := C.1
  have hb := C.2.1
  suffices hmain : ∀ (H : Heap) (locs : List Loc), mm_R g A M H → va_S A s.heap H locs → W p l e rm_X6_set s m args below meth c H locs 0 0 (MQ below (mm_Ti g A r M2) args s 0 0 A) (F0 m 0 ls []) from hmain _ _ hR va_S.rf
  clear hR
  intro H locs hR hS
  unfold ff_X6_set at hf
  refine lv_iload_n hx hb dX6_set_0 rfl (lv_at hl 1 rfl) ?_
  by_cases hk1 : x1 = (0 : Int32)
  · have hf := mm_if1 hk1 hf
    refine lv_lookup (off := 27) (tgt := 28) hx hb dX6_set_1 (by decide) (by rw [hk1]; decide +kernel) (by decide) ?_
    refine lv_aload_n hx hb dX6_set_28 rfl (lv_at hl 0 rfl) ?_
    refine lv_iload_n hx hb dX6_set_29 rfl (lv_at hl 2 rfl) ?_
    obtain ⟨u2, eu2, hf⟩ := mm_bd hf
    obtain ⟨⟨v3, M4⟩, ev3, hf⟩ := mm_bd hf
    have hf := mm_u2e hf
    refine mm_callVi (As := [.int x2]) (rest := []) C hR hS hl.1 vs_X6_55 eu2 (jj_X6_changeSize l g A M x0 x2 v3 M4 ev3) ⟨rfl, rfl, (Nat.le_of_ble_eq_true rfl), (Nat.le_of_ble_eq_true rfl)⟩ rfl (Nat.le_of_ble_eq_true rfl) ⟨Nat.zero_le _, Nat.zero_le _⟩ rfl dX6_set_30 (fun H locs hR hS => ?_)
    exact mm_ire C hR hS hr ((mm_pe hf).1) (mm_pe hf).2 dX6_set_33
  · have hf := mm_if0 hk1 hf
    by_cases hk5 : x1 = (1 : Int32)
    · have hf := mm_if1 hk5 hf
      refine lv_lookup (off := 33) (tgt := 34) hx hb dX6_set_1 (by decide) (by rw [hk5]; decide +kernel) (by decide) ?_
      refine lv_aload_n hx hb dX6_set_34 rfl (lv_at hl 0 rfl) ?_
      refine lv_iload_n hx hb dX6_set_35 rfl (lv_at hl 2 rfl) ?_
      obtain ⟨u6, eu6, hf⟩ := mm_bd hf
      obtain ⟨⟨v7, M8⟩, ev7, hf⟩ := mm_bd hf
      have hf := mm_u2e hf
      refine mm_callVi (As := [.int x2]) (rest := []) C hR hS hl.1 vs_X6_59 eu6 (jj_X6_changeLoss l g A M x0 x2 v7 M8 ev7) ⟨rfl, rfl, (Nat.le_of_ble_eq_true rfl), (Nat.le_of_ble_eq_true rfl)⟩ rfl (Nat.le_of_ble_eq_true rfl) ⟨Nat.zero_le _, Nat.zero_le _⟩ rfl dX6_set_36 (fun H locs hR hS => ?_)
      exact mm_ire C hR hS hr ((mm_pe hf).1) (mm_pe hf).2 dX6_set_39
    · have hf := mm_if0 hk5 hf
      refine lv_lookup (off := 39) (tgt := 40) hx hb dX6_set_1 (by decide) ((lv_osw hk1 rfl).trans ((lv_osw hk5 rfl).trans rfl)) (by decide) ?_
      refine lv_iconst (v := -1) hx hb dX6_set_40 (by decide) ?_
      exact mm_ire C hR hS hr ((mm_pe hf).1) (mm_pe hf).2 dX6_set_41
def ff_X6_pattern (M : mm_M) (x0 : Nat) : Option ((Int32 × mm_M)) := Option.bind (mm_gR 6 M x0 3) fun v1 => Option.bind (mm_ck 5 M v1) fun u2 => Option.bind (ff_X5_firstFaultOrNone M v1) fun v3 => if v3 = (-1 : Int32) then (Option.bind (mm_gR 6 M x0 0) fun v4 => Option.bind (mm_ck 2 M v4) fun u5 => Option.bind (ff_X2_laidCells M v4) fun v6 => if v6 ≤ (0 : Int32) then (Option.bind (mm_gR 6 M x0 2) fun v7 => Option.bind (mm_gR 6 M x0 0) fun v8 => Option.bind (mm_ck 0 M v7) fun u9 => Option.bind (ff_X0_keep M v7 v8) fun M10 => Option.bind (mm_gR 6 M10 x0 0) fun v11 => Option.bind (mm_gR 2 M10 v11 0) fun v12 => Option.bind (mm_gR 6 M10 x0 3) fun v13 => Option.bind (mm_ck 1 M10 v12) fun u14 => Option.bind (ff_X1_takePattern M10 v12 v13) (mm_u2 fun v15 M16 => some (v15, M16))) else (some ((-2 : Int32), M))) else (some ((-2 : Int32), M))
def rm_X6_pattern : Room := { frames := 5, cells := 0, slots := 0, locals := 111 }
set_option maxHeartbeats 4000000 in
set_option maxRecDepth 100000 in
theorem jj_X6_pattern (l : Launch) (g : mm_G) (A : Nat → Prop) (M : mm_M) (x0 : Nat) (r : Int32) (M2 : mm_M) (hf : ff_X6_pattern M x0 = some (r, M2)) : Met l yX6_pattern (mm_ws yX6_pattern cX6_pattern 1 (Option.some Jvm.ClassFile.FieldType.int)) rm_X6_pattern (va_Pc [.ref x0] (mm_B g A M)) (mm_Ti g A r M2) 0 0 A := by
  refine mm_met (g := g) (lv := [(0, .ref x0)]) (fun U h => h.2) (by decide +kernel) (Nat.le_of_ble_eq_true rfl) rfl ?_
  intro p e s m args below meth c ls C hr hnm hB hl
  obtain ⟨hR, hK⟩ := hB
  have hx := C.1
  have hb := C.2.1
  suffices hmain : ∀ (H : Heap) (locs : List Loc), mm_R g A M H → va_S A s.heap H locs → W p l e rm_X6_pattern s m args below meth c H locs 0 0 (MQ below (mm_Ti g A r M2) args s 0 0 A) (F0 m 0 ls []) from hmain _ _ hR va_S.rf
  clear hR
  intro H locs hR hS
  unfold ff_X6_pattern at hf
  refine lv_aload_n hx hb dX6_pattern_0 rfl (lv_at hl 0 rfl) ?_
  obtain ⟨v1, ev1, hf⟩ := mm_bd hf
  refine mm_getR C hR fs_X6_29 ev1 dX6_pattern_1 ?_
  obtain ⟨u2, eu2, hf⟩ := mm_bd hf
  obtain ⟨v3, ev3, hf⟩ := mm_bd hf
  refine mm_callVi (As := []) (rest := []) C hR hS hl.1 vs_X6_62 eu2 (jj_X5_firstFaultOrNone l g A M v1 v3 ev3) ⟨rfl, rfl, (Nat.le_of_ble_eq_true rfl), (Nat.le_of_ble_eq_true rfl)⟩ rfl (Nat.le_of_ble_eq_true rfl) ⟨Nat.zero_le _, Nat.zero_le _⟩ rfl dX6_pattern_4 (fun H locs hR hS => ?_)
  refine lv_iconst (v := -1) hx hb dX6_pattern_7 (by decide) ?_
  refine lv_icmp_ne (tgt := 21) hx hb dX6_pattern_8 (by decide) (fun hc => ?_) (fun hc => ?_)
  · have hf := mm_if0 hc hf
    refine lv_bipush (v := -2) hx hb dX6_pattern_21 (by decide) ?_
    exact mm_ire C hR hS hr ((mm_pe hf).1) (mm_pe hf).2 dX6_pattern_23
  · have hf := mm_if1 hc hf
    refine lv_aload_n hx hb dX6_pattern_11 rfl (lv_at hl 0 rfl) ?_
    obtain ⟨v4, ev4, hf⟩ := mm_bd hf
    refine mm_getR C hR fs_X6_10 ev4 dX6_pattern_12 ?_
    obtain ⟨u5, eu5, hf⟩ := mm_bd hf
    obtain ⟨v6, ev6, hf⟩ := mm_bd hf
    refine mm_callVi (As := []) (rest := []) C hR hS hl.1 vs_X6_37 eu5 (jj_X2_laidCells l g A M v4 v6 ev6) ⟨rfl, rfl, (Nat.le_of_ble_eq_true rfl), (Nat.le_of_ble_eq_true rfl)⟩ rfl (Nat.le_of_ble_eq_true rfl) ⟨Nat.zero_le _, Nat.zero_le _⟩ rfl dX6_pattern_15 (fun H locs hR hS => ?_)
    refine lv_if_le (tgt := 24) hx hb dX6_pattern_18 (by decide) (fun hc => ?_) (fun hc => ?_)
    · have hf := mm_if1 hc hf
      refine lv_aload_n hx hb dX6_pattern_24 rfl (lv_at hl 0 rfl) ?_
      obtain ⟨v7, ev7, hf⟩ := mm_bd hf
      refine mm_getR C hR fs_X6_22 ev7 dX6_pattern_25 ?_
      refine lv_aload_n hx hb dX6_pattern_28 rfl (lv_at hl 0 rfl) ?_
      obtain ⟨v8, ev8, hf⟩ := mm_bd hf
      refine mm_getR C hR fs_X6_10 ev8 dX6_pattern_29 ?_
      obtain ⟨u9, eu9, hf⟩ := mm_bd hf
      obtain ⟨M10, eM10, hf⟩ := mm_bd hf
      refine mm_callVv (As := [.ref v8]) (rest := []) C hR hS hl.1 vs_X6_41 eu9 (jj_X0_keep l g A M v7 v8 M10 eM10) ⟨rfl, rfl, (Nat.le_of_ble_eq_true rfl), (Nat.le_of_ble_eq_true rfl)⟩ rfl (Nat.le_of_ble_eq_true rfl) ⟨Nat.zero_le _, Nat.zero_le _⟩ rfl dX6_pattern_32 (fun H locs hR hS => ?_)
      refine lv_aload_n hx hb dX6_pattern_35 rfl (lv_at hl 0 rfl) ?_
      obtain ⟨v11, ev11, hf⟩ := mm_bd hf
      refine mm_getR C hR fs_X6_10 ev11 dX6_pattern_36 ?_
      obtain ⟨v12, ev12, hf⟩ := mm_bd hf
      refine mm_getR C hR fs_X6_45 ev12 dX6_pattern_39 ?_
      refine lv_aload_n hx hb dX6_pattern_42 rfl (lv_at hl 0 rfl) ?_
      obtain ⟨v13, ev13, hf⟩ := mm_bd hf
      refine mm_getR C hR fs_X6_29 ev13 dX6_pattern_43 ?_
      obtain ⟨u14, eu14, hf⟩ := mm_bd hf
      obtain ⟨⟨v15, M16⟩, ev15, hf⟩ := mm_bd hf
      have hf := mm_u2e hf
      refine mm_callVi (As := [.ref v13]) (rest := []) C hR hS hl.1 vs_X6_65 eu14 (jj_X1_takePattern l g A M10 v12 v13 v15 M16 ev15) ⟨rfl, rfl, (Nat.le_of_ble_eq_true rfl), (Nat.le_of_ble_eq_true rfl)⟩ rfl (Nat.le_of_ble_eq_true rfl) ⟨Nat.zero_le _, Nat.zero_le _⟩ rfl dX6_pattern_46 (fun H locs hR hS => ?_)
      exact mm_ire C hR hS hr ((mm_pe hf).1) (mm_pe hf).2 dX6_pattern_49
    · have hf := mm_if0 hc hf
      refine lv_bipush (v := -2) hx hb dX6_pattern_21 (by decide) ?_
      exact mm_ire C hR hS hr ((mm_pe hf).1) (mm_pe hf).2 dX6_pattern_23
def ff_X6_way (M : mm_M) (x0 : Nat) (x1 : Int32) : Option ((Int32 × mm_M)) := Option.bind (ff_X6_isWithin M x1 (0 : Int32) (2 : Int32)) fun v1 => if v1 = (0 : Int32) then (some ((-1 : Int32), M)) else (Option.bind (mm_gR 6 M x0 0) fun v2 => Option.bind (mm_ck 2 M v2) fun u3 => Option.bind (ff_X2_laidCells M v2) fun v4 => if v4 ≤ (0 : Int32) then (Option.bind (mm_gR 6 M x0 2) fun v5 => Option.bind (mm_gR 6 M x0 0) fun v6 => Option.bind (mm_ck 0 M v5) fun u7 => Option.bind (ff_X0_keep M v5 v6) fun M8 => Option.bind (mm_gR 6 M8 x0 0) fun v9 => Option.bind (mm_gR 2 M8 v9 0) fun v10 => Option.bind (mm_gI 1 M8 v10 3) fun v11 => Option.bind (mm_gR 6 M8 x0 0) fun v12 => Option.bind (mm_gR 2 M8 v12 0) fun v13 => Option.bind (mm_pI 1 M8 v13 3 x1) fun M14 => some (v11, M14)) else (some ((-2 : Int32), M)))
def rm_X6_way : Room := { frames := 5, cells := 0, slots := 0, locals := 111 }
set_option maxHeartbeats 4000000 in
set_option maxRecDepth 100000 in
theorem jj_X6_way (l : Launch) (g : mm_G) (A : Nat → Prop) (M : mm_M) (x0 : Nat) (x1 : Int32) (r : Int32) (M2 : mm_M) (hf : ff_X6_way M x0 x1 = some (r, M2)) : Met l yX6_way (mm_ws yX6_way cX6_way 3 (Option.some Jvm.ClassFile.FieldType.int)) rm_X6_way (va_Pc [.ref x0, .int x1] (mm_B g A M)) (mm_Ti g A r M2) 0 0 A := by
  refine mm_met (g := g) (lv := [(0, .ref x0), (1, .int x1)]) (fun U h => h.2) (by decide +kernel) (Nat.le_of_ble_eq_true rfl) rfl ?_
  intro p e s m args below meth c ls C hr hnm hB hl
  obtain ⟨hR, hK⟩ := hB
  have hx := C.1
  have hb := C.2.1
  suffices hmain : ∀ (H : Heap) (locs : List Loc), mm_R g A M H → va_S A s.heap H locs → W p l e rm_X6_way s m args below meth c H locs 0 0 (MQ below (mm_Ti g A r M2) args s 0 0 A) (F0 m 0 ls []) from hmain _ _ hR va_S.rf
  clear hR
  intro H locs hR hS
  unfold ff_X6_way at hf
  refine lv_iload_n hx hb dX6_way_0 rfl (lv_at hl 1 rfl) ?_
  refine lv_iconst (v := 0) hx hb dX6_way_1 (by decide) ?_
  refine lv_iconst (v := 2) hx hb dX6_way_2 (by decide) ?_
  obtain ⟨v1, ev1, hf⟩ := mm_bd hf
  refine mm_callSi (As := [.int x1, .int (0 : Int32), .int (2 : Int32)]) (rest := []) C hR hS hl.1 ss_X6_33 (jj_X6_isWithin l g A M x1 (0 : Int32) (2 : Int32) v1 ev1) ⟨rfl, rfl, (Nat.le_of_ble_eq_true rfl), (Nat.le_of_ble_eq_true rfl)⟩ rfl (Nat.le_of_ble_eq_true rfl) ⟨Nat.zero_le _, Nat.zero_le _⟩ rfl dX6_way_3 (fun H locs hR hS => ?_)
  refine lv_if_ne (tgt := 11) hx hb dX6_way_6 (by decide) (fun hc => ?_) (fun hc => ?_)
  · have hf := mm_if0 hc hf
    refine lv_aload_n hx hb dX6_way_11 rfl (lv_at hl 0 rfl) ?_
    obtain ⟨v2, ev2, hf⟩ := mm_bd hf
    refine mm_getR C hR fs_X6_10 ev2 dX6_way_12 ?_
    obtain ⟨u3, eu3, hf⟩ := mm_bd hf
    obtain ⟨v4, ev4, hf⟩ := mm_bd hf
    refine mm_callVi (As := []) (rest := []) C hR hS hl.1 vs_X6_37 eu3 (jj_X2_laidCells l g A M v2 v4 ev4) ⟨rfl, rfl, (Nat.le_of_ble_eq_true rfl), (Nat.le_of_ble_eq_true rfl)⟩ rfl (Nat.le_of_ble_eq_true rfl) ⟨Nat.zero_le _, Nat.zero_le _⟩ rfl dX6_way_15 (fun H locs hR hS => ?_)
    refine lv_if_le (tgt := 24) hx hb dX6_way_18 (by decide) (fun hc => ?_) (fun hc => ?_)
    · have hf := mm_if1 hc hf
      refine lv_aload_n hx hb dX6_way_24 rfl (lv_at hl 0 rfl) ?_
      obtain ⟨v5, ev5, hf⟩ := mm_bd hf
      refine mm_getR C hR fs_X6_22 ev5 dX6_way_25 ?_
      refine lv_aload_n hx hb dX6_way_28 rfl (lv_at hl 0 rfl) ?_
      obtain ⟨v6, ev6, hf⟩ := mm_bd hf
      refine mm_getR C hR fs_X6_10 ev6 dX6_way_29 ?_
      obtain ⟨u7, eu7, hf⟩ := mm_bd hf
      obtain ⟨M8, eM8, hf⟩ := mm_bd hf
      refine mm_callVv (As := [.ref v6]) (rest := []) C hR hS hl.1 vs_X6_41 eu7 (jj_X0_keep l g A M v5 v6 M8 eM8) ⟨rfl, rfl, (Nat.le_of_ble_eq_true rfl), (Nat.le_of_ble_eq_true rfl)⟩ rfl (Nat.le_of_ble_eq_true rfl) ⟨Nat.zero_le _, Nat.zero_le _⟩ rfl dX6_way_32 (fun H locs hR hS => ?_)
      refine lv_aload_n hx hb dX6_way_35 rfl (lv_at hl 0 rfl) ?_
      obtain ⟨v9, ev9, hf⟩ := mm_bd hf
      refine mm_getR C hR fs_X6_10 ev9 dX6_way_36 ?_
      obtain ⟨v10, ev10, hf⟩ := mm_bd hf
      refine mm_getR C hR fs_X6_45 ev10 dX6_way_39 ?_
      obtain ⟨v11, ev11, hf⟩ := mm_bd hf
      refine mm_getI C hR fs_X6_69 ev11 dX6_way_42 ?_
      refine lv_istore_n (lv' := [(2, .int v11), (0, .ref x0), (1, .int x1)]) hx hb dX6_way_45 rfl hl (by decide) rfl (fun ls hl => ?_)
      refine lv_aload_n hx hb dX6_way_46 rfl (lv_at hl 1 rfl) ?_
      obtain ⟨v12, ev12, hf⟩ := mm_bd hf
      refine mm_getR C hR fs_X6_10 ev12 dX6_way_47 ?_
      obtain ⟨v13, ev13, hf⟩ := mm_bd hf
      refine mm_getR C hR fs_X6_45 ev13 dX6_way_50 ?_
      refine lv_iload_n hx hb dX6_way_53 rfl (lv_at hl 2 rfl) ?_
      obtain ⟨M14, eM14, hf⟩ := mm_bd hf
      refine mm_putI C hR hS ps_X6_69 eM14 dX6_way_54 (fun H locs hR hS => ?_)
      refine lv_iload_n hx hb dX6_way_57 rfl (lv_at hl 0 rfl) ?_
      exact mm_ire C hR hS hr ((mm_pe hf).1) (mm_pe hf).2 dX6_way_58
    · have hf := mm_if0 hc hf
      refine lv_bipush (v := -2) hx hb dX6_way_21 (by decide) ?_
      exact mm_ire C hR hS hr ((mm_pe hf).1) (mm_pe hf).2 dX6_way_23
  · have hf := mm_if1 hc hf
    refine lv_iconst (v := -1) hx hb dX6_way_9 (by decide) ?_
    exact mm_ire C hR hS hr ((mm_pe hf).1) (mm_pe hf).2 dX6_way_10
def ff_X6_want (M : mm_M) (x0 : Nat) (x1 : Int32) (x2 : Int32) (x3 : Int32) : Option ((Int32 × mm_M)) := Option.bind (mm_gR 6 M x0 0) fun v1 => Option.bind (mm_gR 2 M v1 0) fun v2 => Option.bind (mm_ck 1 M v2) fun u3 => Option.bind (ff_X1_hasCell M v2 x1 x2) fun v4 => if v4 = (0 : Int32) then (some ((-1 : Int32), M)) else (Option.bind (ff_X6_isShade M x3) fun v5 => if v5 = (0 : Int32) then (some ((-1 : Int32), M)) else (Option.bind (mm_gR 6 M x0 0) fun v6 => Option.bind (mm_gR 2 M v6 0) fun v7 => Option.bind (mm_ck 1 M v7) fun u8 => Option.bind (ff_X1_isBorder M v7 x1 x2) fun v9 => if v9 = (0 : Int32) then (Option.bind (mm_gR 6 M x0 0) fun v10 => Option.bind (mm_ck 2 M v10) fun u11 => Option.bind (ff_X2_isLaid M v10 x1 x2) fun v12 => if v12 = (0 : Int32) then (Option.bind (mm_gR 6 M x0 2) fun v13 => Option.bind (mm_gR 6 M x0 0) fun v14 => Option.bind (mm_ck 0 M v13) fun u15 => Option.bind (ff_X0_keep M v13 v14) fun M16 => Option.bind (mm_gR 6 M16 x0 0) fun v17 => Option.bind (mm_gR 2 M16 v17 0) fun v18 => Option.bind (mm_ck 1 M16 v18) fun u19 => Option.bind (ff_X1_wantedAt M16 v18 x1 x2) fun v20 => Option.bind (mm_gR 6 M16 x0 0) fun v21 => Option.bind (mm_gR 2 M16 v21 0) fun v22 => Option.bind (mm_ck 1 M16 v22) fun u23 => Option.bind (ff_X1_wantInField M16 v22 x1 x2 x3) fun M24 => some (v20, M24)) else (some ((-2 : Int32), M))) else (some ((-2 : Int32), M))))
def rm_X6_want : Room := { frames := 5, cells := 0, slots := 0, locals := 111 }
set_option maxHeartbeats 4000000 in
set_option maxRecDepth 100000 in
theorem jj_X6_want (l : Launch) (g : mm_G) (A : Nat → Prop) (M : mm_M) (x0 : Nat) (x1 : Int32) (x2 : Int32) (x3 : Int32) (r : Int32) (M2 : mm_M) (hf : ff_X6_want M x0 x1 x2 x3 = some (r, M2)) : Met l yX6_want (mm_ws yX6_want cX6_want 5 (Option.some Jvm.ClassFile.FieldType.int)) rm_X6_want (va_Pc [.ref x0, .int x1, .int x2, .int x3] (mm_B g A M)) (mm_Ti g A r M2) 0 0 A := by
  refine mm_met (g := g) (lv := [(0, .ref x0), (1, .int x1), (2, .int x2), (3, .int x3)]) (fun U h => h.2) (by decide +kernel) (Nat.le_of_ble_eq_true rfl) rfl ?_
  intro p e s m args below meth c ls C hr hnm hB hl
  obtain ⟨hR, hK⟩ := hB
  have hx := C.1
  have hb := C.2.1
  suffices hmain : ∀ (H : Heap) (locs : List Loc), mm_R g A M H → va_S A s.heap H locs → W p l e rm_X6_want s m args below meth c H locs 0 0 (MQ below (mm_Ti g A r M2) args s 0 0 A) (F0 m 0 ls []) from hmain _ _ hR va_S.rf
  clear hR
  intro H locs hR hS
  unfold ff_X6_want at hf
  refine lv_aload_n hx hb dX6_want_0 rfl (lv_at hl 0 rfl) ?_
  obtain ⟨v1, ev1, hf⟩ := mm_bd hf
  refine mm_getR C hR fs_X6_10 ev1 dX6_want_1 ?_
  obtain ⟨v2, ev2, hf⟩ := mm_bd hf
  refine mm_getR C hR fs_X6_45 ev2 dX6_want_4 ?_
  refine lv_iload_n hx hb dX6_want_7 rfl (lv_at hl 1 rfl) ?_
  refine lv_iload_n hx hb dX6_want_8 rfl (lv_at hl 2 rfl) ?_
  obtain ⟨u3, eu3, hf⟩ := mm_bd hf
  obtain ⟨v4, ev4, hf⟩ := mm_bd hf
  refine mm_callVi (As := [.int x1, .int x2]) (rest := []) C hR hS hl.1 vs_X6_73 eu3 (jj_X1_hasCell l g A M v2 x1 x2 v4 ev4) ⟨rfl, rfl, (Nat.le_of_ble_eq_true rfl), (Nat.le_of_ble_eq_true rfl)⟩ rfl (Nat.le_of_ble_eq_true rfl) ⟨Nat.zero_le _, Nat.zero_le _⟩ rfl dX6_want_9 (fun H locs hR hS => ?_)
  refine lv_if_eq (tgt := 22) hx hb dX6_want_12 (by decide) (fun hc => ?_) (fun hc => ?_)
  · have hf := mm_if1 hc hf
    refine lv_iconst (v := -1) hx hb dX6_want_22 (by decide) ?_
    exact mm_ire C hR hS hr ((mm_pe hf).1) (mm_pe hf).2 dX6_want_23
  · have hf := mm_if0 hc hf
    refine lv_iload_n hx hb dX6_want_15 rfl (lv_at hl 3 rfl) ?_
    obtain ⟨v5, ev5, hf⟩ := mm_bd hf
    refine mm_callSi (As := [.int x3]) (rest := []) C hR hS hl.1 ss_X6_77 (jj_X6_isShade l g A M x3 v5 ev5) ⟨rfl, rfl, (Nat.le_of_ble_eq_true rfl), (Nat.le_of_ble_eq_true rfl)⟩ rfl (Nat.le_of_ble_eq_true rfl) ⟨Nat.zero_le _, Nat.zero_le _⟩ rfl dX6_want_16 (fun H locs hR hS => ?_)
    refine lv_if_ne (tgt := 24) hx hb dX6_want_19 (by decide) (fun hc => ?_) (fun hc => ?_)
    · have hf := mm_if0 hc hf
      refine lv_aload_n hx hb dX6_want_24 rfl (lv_at hl 0 rfl) ?_
      obtain ⟨v6, ev6, hf⟩ := mm_bd hf
      refine mm_getR C hR fs_X6_10 ev6 dX6_want_25 ?_
      obtain ⟨v7, ev7, hf⟩ := mm_bd hf
      refine mm_getR C hR fs_X6_45 ev7 dX6_want_28 ?_
      refine lv_iload_n hx hb dX6_want_31 rfl (lv_at hl 1 rfl) ?_
      refine lv_iload_n hx hb dX6_want_32 rfl (lv_at hl 2 rfl) ?_
      obtain ⟨u8, eu8, hf⟩ := mm_bd hf
      obtain ⟨v9, ev9, hf⟩ := mm_bd hf
      refine mm_callVi (As := [.int x1, .int x2]) (rest := []) C hR hS hl.1 vs_X6_81 eu8 (jj_X1_isBorder l g A M v7 x1 x2 v9 ev9) ⟨rfl, rfl, (Nat.le_of_ble_eq_true rfl), (Nat.le_of_ble_eq_true rfl)⟩ rfl (Nat.le_of_ble_eq_true rfl) ⟨Nat.zero_le _, Nat.zero_le _⟩ rfl dX6_want_33 (fun H locs hR hS => ?_)
      refine lv_if_ne (tgt := 51) hx hb dX6_want_36 (by decide) (fun hc => ?_) (fun hc => ?_)
      · have hf := mm_if0 hc hf
        refine lv_bipush (v := -2) hx hb dX6_want_51 (by decide) ?_
        exact mm_ire C hR hS hr ((mm_pe hf).1) (mm_pe hf).2 dX6_want_53
      · have hf := mm_if1 hc hf
        refine lv_aload_n hx hb dX6_want_39 rfl (lv_at hl 0 rfl) ?_
        obtain ⟨v10, ev10, hf⟩ := mm_bd hf
        refine mm_getR C hR fs_X6_10 ev10 dX6_want_40 ?_
        refine lv_iload_n hx hb dX6_want_43 rfl (lv_at hl 1 rfl) ?_
        refine lv_iload_n hx hb dX6_want_44 rfl (lv_at hl 2 rfl) ?_
        obtain ⟨u11, eu11, hf⟩ := mm_bd hf
        obtain ⟨v12, ev12, hf⟩ := mm_bd hf
        refine mm_callVi (As := [.int x1, .int x2]) (rest := []) C hR hS hl.1 vs_X6_84 eu11 (jj_X2_isLaid l g A M v10 x1 x2 v12 ev12) ⟨rfl, rfl, (Nat.le_of_ble_eq_true rfl), (Nat.le_of_ble_eq_true rfl)⟩ rfl (Nat.le_of_ble_eq_true rfl) ⟨Nat.zero_le _, Nat.zero_le _⟩ rfl dX6_want_45 (fun H locs hR hS => ?_)
        refine lv_if_eq (tgt := 54) hx hb dX6_want_48 (by decide) (fun hc => ?_) (fun hc => ?_)
        · have hf := mm_if1 hc hf
          refine lv_aload_n hx hb dX6_want_54 rfl (lv_at hl 0 rfl) ?_
          obtain ⟨v13, ev13, hf⟩ := mm_bd hf
          refine mm_getR C hR fs_X6_22 ev13 dX6_want_55 ?_
          refine lv_aload_n hx hb dX6_want_58 rfl (lv_at hl 0 rfl) ?_
          obtain ⟨v14, ev14, hf⟩ := mm_bd hf
          refine mm_getR C hR fs_X6_10 ev14 dX6_want_59 ?_
          obtain ⟨u15, eu15, hf⟩ := mm_bd hf
          obtain ⟨M16, eM16, hf⟩ := mm_bd hf
          refine mm_callVv (As := [.ref v14]) (rest := []) C hR hS hl.1 vs_X6_41 eu15 (jj_X0_keep l g A M v13 v14 M16 eM16) ⟨rfl, rfl, (Nat.le_of_ble_eq_true rfl), (Nat.le_of_ble_eq_true rfl)⟩ rfl (Nat.le_of_ble_eq_true rfl) ⟨Nat.zero_le _, Nat.zero_le _⟩ rfl dX6_want_62 (fun H locs hR hS => ?_)
          refine lv_aload_n hx hb dX6_want_65 rfl (lv_at hl 0 rfl) ?_
          obtain ⟨v17, ev17, hf⟩ := mm_bd hf
          refine mm_getR C hR fs_X6_10 ev17 dX6_want_66 ?_
          obtain ⟨v18, ev18, hf⟩ := mm_bd hf
          refine mm_getR C hR fs_X6_45 ev18 dX6_want_69 ?_
          refine lv_iload_n hx hb dX6_want_72 rfl (lv_at hl 1 rfl) ?_
          refine lv_iload_n hx hb dX6_want_73 rfl (lv_at hl 2 rfl) ?_
          obtain ⟨u19, eu19, hf⟩ := mm_bd hf
          obtain ⟨v20, ev20, hf⟩ := mm_bd hf
          refine mm_callVi (As := [.int x1, .int x2]) (rest := []) C hR hS hl.1 vs_X6_87 eu19 (jj_X1_wantedAt l g A M16 v18 x1 x2 v20 ev20) ⟨rfl, rfl, (Nat.le_of_ble_eq_true rfl), (Nat.le_of_ble_eq_true rfl)⟩ rfl (Nat.le_of_ble_eq_true rfl) ⟨Nat.zero_le _, Nat.zero_le _⟩ rfl dX6_want_74 (fun H locs hR hS => ?_)
          refine lv_istore (lv' := [(4, .int v20), (0, .ref x0), (1, .int x1), (2, .int x2), (3, .int x3)]) hx hb dX6_want_77 hl (by decide) rfl (fun ls hl => ?_)
          refine lv_aload_n hx hb dX6_want_79 rfl (lv_at hl 1 rfl) ?_
          obtain ⟨v21, ev21, hf⟩ := mm_bd hf
          refine mm_getR C hR fs_X6_10 ev21 dX6_want_80 ?_
          obtain ⟨v22, ev22, hf⟩ := mm_bd hf
          refine mm_getR C hR fs_X6_45 ev22 dX6_want_83 ?_
          refine lv_iload_n hx hb dX6_want_86 rfl (lv_at hl 2 rfl) ?_
          refine lv_iload_n hx hb dX6_want_87 rfl (lv_at hl 3 rfl) ?_
          refine lv_iload_n hx hb dX6_want_88 rfl (lv_at hl 4 rfl) ?_
          obtain ⟨u23, eu23, hf⟩ := mm_bd hf
          obtain ⟨M24, eM24, hf⟩ := mm_bd hf
          refine mm_callVv (As := [.int x1, .int x2, .int x3]) (rest := []) C hR hS hl.1 vs_X6_91 eu23 (jj_X1_wantInField l g A M16 v22 x1 x2 x3 M24 eM24) ⟨rfl, rfl, (Nat.le_of_ble_eq_true rfl), (Nat.le_of_ble_eq_true rfl)⟩ rfl (Nat.le_of_ble_eq_true rfl) ⟨Nat.zero_le _, Nat.zero_le _⟩ rfl dX6_want_89 (fun H locs hR hS => ?_)
          refine lv_iload hx hb dX6_want_92 (lv_at hl 0 rfl) ?_
          exact mm_ire C hR hS hr ((mm_pe hf).1) (mm_pe hf).2 dX6_want_94
        · have hf := mm_if0 hc hf
          refine lv_bipush (v := -2) hx hb dX6_want_51 (by decide) ?_
          exact mm_ire C hR hS hr ((mm_pe hf).1) (mm_pe hf).2 dX6_want_53
    · have hf := mm_if1 hc hf
      refine lv_iconst (v := -1) hx hb dX6_want_22 (by decide) ?_
      exact mm_ire C hR hS hr ((mm_pe hf).1) (mm_pe hf).2 dX6_want_23
def ff_X6_cell (M : mm_M) (x0 : Nat) (x1 : Int32) (x2 : Int32) (x3 : Int32) : Option Int32 := Option.bind (mm_gR 6 M x0 0) fun v1 => Option.bind (mm_gR 2 M v1 0) fun v2 => Option.bind (mm_ck 1 M v2) fun u3 => Option.bind (ff_X1_hasCell M v2 x1 x2) fun v4 => if v4 = (0 : Int32) then (some (-1 : Int32)) else (if x3 = (0 : Int32) then (Option.bind (mm_gR 6 M x0 0) fun v6 => Option.bind (mm_gR 2 M v6 0) fun v7 => Option.bind (mm_ck 1 M v7) fun u8 => Option.bind (ff_X1_wantedAt M v7 x1 x2) fun v9 => some v9) else (if x3 = (1 : Int32) then (Option.bind (mm_gR 6 M x0 0) fun v11 => Option.bind (mm_ck 2 M v11) fun u12 => Option.bind (ff_X2_isLaid M v11 x1 x2) fun v13 => if v13 = (0 : Int32) then (some (-4 : Int32)) else (Option.bind (mm_gR 6 M x0 0) fun v14 => Option.bind (mm_ck 2 M v14) fun u15 => Option.bind (ff_X2_laidOrNone M v14 x1 x2) fun v16 => some v16)) else (if x3 = (2 : Int32) then (Option.bind (mm_gR 6 M x0 0) fun v18 => Option.bind (mm_ck 2 M v18) fun u19 => Option.bind (ff_X2_isLaid M v18 x1 x2) fun v20 => if v20 = (0 : Int32) then (some (-4 : Int32)) else (Option.bind (mm_gR 6 M x0 0) fun v21 => Option.bind (mm_ck 2 M v21) fun u22 => Option.bind (ff_X2_differenceAt M v21 x1 x2) fun v23 => some v23)) else (if x3 = (3 : Int32) then (Option.bind (mm_gR 6 M x0 0) fun v25 => Option.bind (mm_gR 2 M v25 0) fun v26 => Option.bind (mm_ck 1 M v26) fun u27 => Option.bind (ff_X1_isBorder M v26 x1 x2) fun v28 => if v28 = (0 : Int32) then (some (-4 : Int32)) else (Option.bind (mm_gR 6 M x0 0) fun v29 => Option.bind (mm_gR 2 M v29 0) fun v30 => Option.bind (mm_ck 1 M v30) fun u31 => Option.bind (ff_X1_borderNumberAt M v30 x1 x2) fun v32 => some v32)) else (some (-1 : Int32))))))
def rm_X6_cell : Room := { frames := 4, cells := 0, slots := 0, locals := 91 }
set_option maxHeartbeats 4000000 in
set_option maxRecDepth 100000 in
theorem jj_X6_cell (l : Launch) (g : mm_G) (A : Nat → Prop) (M : mm_M) (x0 : Nat) (x1 : Int32) (x2 : Int32) (x3 : Int32) (r : Int32) (hf : ff_X6_cell M x0 x1 x2 x3 = some r) : Met l yX6_cell (mm_ws yX6_cell cX6_cell 4 (Option.some Jvm.ClassFile.FieldType.int)) rm_X6_cell (va_Pc [.ref x0, .int x1, .int x2, .int x3] (mm_B g A M)) (mm_Ti g A r M) 0 0 A := by
  refine mm_met (g := g) (lv := [(0, .ref x0), (1, .int x1), (2, .int x2), (3, .int x3)]) (fun U h => h.2) (by decide +kernel) (Nat.le_of_ble_eq_true rfl) rfl ?_
  intro p e s m args below meth c ls C hr hnm hB hl
  obtain ⟨hR, hK⟩ := hB
  have hx := C.1
  have hb := C.2.1
  suffices hmain : ∀ (H : Heap) (locs : List Loc), mm_R g A M H → va_S A s.heap H locs → W p l e rm_X6_cell s m args below meth c H locs 0 0 (MQ below (mm_Ti g A r M) args s 0 0 A) (F0 m 0 ls []) from hmain _ _ hR va_S.rf
  clear hR
  intro H locs hR hS
  unfold ff_X6_cell at hf
  refine lv_aload_n hx hb dX6_cell_0 rfl (lv_at hl 0 rfl) ?_
  obtain ⟨v1, ev1, hf⟩ := mm_bd hf
  refine mm_getR C hR fs_X6_10 ev1 dX6_cell_1 ?_
  obtain ⟨v2, ev2, hf⟩ := mm_bd hf
  refine mm_getR C hR fs_X6_45 ev2 dX6_cell_4 ?_
  refine lv_iload_n hx hb dX6_cell_7 rfl (lv_at hl 1 rfl) ?_
  refine lv_iload_n hx hb dX6_cell_8 rfl (lv_at hl 2 rfl) ?_
  obtain ⟨u3, eu3, hf⟩ := mm_bd hf
  obtain ⟨v4, ev4, hf⟩ := mm_bd hf
  refine mm_callVi (As := [.int x1, .int x2]) (rest := []) C hR hS hl.1 vs_X6_73 eu3 (jj_X1_hasCell l g A M v2 x1 x2 v4 ev4) ⟨rfl, rfl, (Nat.le_of_ble_eq_true rfl), (Nat.le_of_ble_eq_true rfl)⟩ rfl (Nat.le_of_ble_eq_true rfl) ⟨Nat.zero_le _, Nat.zero_le _⟩ rfl dX6_cell_9 (fun H locs hR hS => ?_)
  refine lv_if_ne (tgt := 17) hx hb dX6_cell_12 (by decide) (fun hc => ?_) (fun hc => ?_)
  · have hf := mm_if0 hc hf
    refine lv_iload_n hx hb dX6_cell_17 rfl (lv_at hl 3 rfl) ?_
    by_cases hk5 : x3 = (0 : Int32)
    · have hf := mm_if1 hk5 hf
      refine lv_tableIn (off := 30) (tgt := 48) hx hb dX6_cell_18 (by rw [hk5]; decide) (by rw [hk5]; decide) (by rw [hk5]; decide +kernel) (by decide) ?_
      refine lv_aload_n hx hb dX6_cell_48 rfl (lv_at hl 0 rfl) ?_
      obtain ⟨v6, ev6, hf⟩ := mm_bd hf
      refine mm_getR C hR fs_X6_10 ev6 dX6_cell_49 ?_
      obtain ⟨v7, ev7, hf⟩ := mm_bd hf
      refine mm_getR C hR fs_X6_45 ev7 dX6_cell_52 ?_
      refine lv_iload_n hx hb dX6_cell_55 rfl (lv_at hl 1 rfl) ?_
      refine lv_iload_n hx hb dX6_cell_56 rfl (lv_at hl 2 rfl) ?_
      obtain ⟨u8, eu8, hf⟩ := mm_bd hf
      obtain ⟨v9, ev9, hf⟩ := mm_bd hf
      refine mm_callVi (As := [.int x1, .int x2]) (rest := []) C hR hS hl.1 vs_X6_87 eu8 (jj_X1_wantedAt l g A M v7 x1 x2 v9 ev9) ⟨rfl, rfl, (Nat.le_of_ble_eq_true rfl), (Nat.le_of_ble_eq_true rfl)⟩ rfl (Nat.le_of_ble_eq_true rfl) ⟨Nat.zero_le _, Nat.zero_le _⟩ rfl dX6_cell_57 (fun H locs hR hS => ?_)
      exact mm_ire C hR hS hr ((Option.some.inj hf)) rfl dX6_cell_60
    · have hf := mm_if0 hk5 hf
      by_cases hk10 : x3 = (1 : Int32)
      · have hf := mm_if1 hk10 hf
        refine lv_tableIn (off := 43) (tgt := 61) hx hb dX6_cell_18 (by rw [hk10]; decide) (by rw [hk10]; decide) (by rw [hk10]; decide +kernel) (by decide) ?_
        refine lv_aload_n hx hb dX6_cell_61 rfl (lv_at hl 0 rfl) ?_
        obtain ⟨v11, ev11, hf⟩ := mm_bd hf
        refine mm_getR C hR fs_X6_10 ev11 dX6_cell_62 ?_
        refine lv_iload_n hx hb dX6_cell_65 rfl (lv_at hl 1 rfl) ?_
        refine lv_iload_n hx hb dX6_cell_66 rfl (lv_at hl 2 rfl) ?_
        obtain ⟨u12, eu12, hf⟩ := mm_bd hf
        obtain ⟨v13, ev13, hf⟩ := mm_bd hf
        refine mm_callVi (As := [.int x1, .int x2]) (rest := []) C hR hS hl.1 vs_X6_84 eu12 (jj_X2_isLaid l g A M v11 x1 x2 v13 ev13) ⟨rfl, rfl, (Nat.le_of_ble_eq_true rfl), (Nat.le_of_ble_eq_true rfl)⟩ rfl (Nat.le_of_ble_eq_true rfl) ⟨Nat.zero_le _, Nat.zero_le _⟩ rfl dX6_cell_67 (fun H locs hR hS => ?_)
        refine lv_if_eq (tgt := 85) hx hb dX6_cell_70 (by decide) (fun hc => ?_) (fun hc => ?_)
        · have hf := mm_if1 hc hf
          refine lv_bipush (v := -4) hx hb dX6_cell_85 (by decide) ?_
          exact mm_ire C hR hS hr ((Option.some.inj hf)) rfl dX6_cell_87
        · have hf := mm_if0 hc hf
          refine lv_aload_n hx hb dX6_cell_73 rfl (lv_at hl 0 rfl) ?_
          obtain ⟨v14, ev14, hf⟩ := mm_bd hf
          refine mm_getR C hR fs_X6_10 ev14 dX6_cell_74 ?_
          refine lv_iload_n hx hb dX6_cell_77 rfl (lv_at hl 1 rfl) ?_
          refine lv_iload_n hx hb dX6_cell_78 rfl (lv_at hl 2 rfl) ?_
          obtain ⟨u15, eu15, hf⟩ := mm_bd hf
          obtain ⟨v16, ev16, hf⟩ := mm_bd hf
          refine mm_callVi (As := [.int x1, .int x2]) (rest := []) C hR hS hl.1 vs_X6_95 eu15 (jj_X2_laidOrNone l g A M v14 x1 x2 v16 ev16) ⟨rfl, rfl, (Nat.le_of_ble_eq_true rfl), (Nat.le_of_ble_eq_true rfl)⟩ rfl (Nat.le_of_ble_eq_true rfl) ⟨Nat.zero_le _, Nat.zero_le _⟩ rfl dX6_cell_79 (fun H locs hR hS => ?_)
          refine lv_goto (tgt := 87) hx hb dX6_cell_82 (by decide) ?_
          exact mm_ire C hR hS hr ((Option.some.inj hf)) rfl dX6_cell_87
      · have hf := mm_if0 hk10 hf
        by_cases hk17 : x3 = (2 : Int32)
        · have hf := mm_if1 hk17 hf
          refine lv_tableIn (off := 70) (tgt := 88) hx hb dX6_cell_18 (by rw [hk17]; decide) (by rw [hk17]; decide) (by rw [hk17]; decide +kernel) (by decide) ?_
          refine lv_aload_n hx hb dX6_cell_88 rfl (lv_at hl 0 rfl) ?_
          obtain ⟨v18, ev18, hf⟩ := mm_bd hf
          refine mm_getR C hR fs_X6_10 ev18 dX6_cell_89 ?_
          refine lv_iload_n hx hb dX6_cell_92 rfl (lv_at hl 1 rfl) ?_
          refine lv_iload_n hx hb dX6_cell_93 rfl (lv_at hl 2 rfl) ?_
          obtain ⟨u19, eu19, hf⟩ := mm_bd hf
          obtain ⟨v20, ev20, hf⟩ := mm_bd hf
          refine mm_callVi (As := [.int x1, .int x2]) (rest := []) C hR hS hl.1 vs_X6_84 eu19 (jj_X2_isLaid l g A M v18 x1 x2 v20 ev20) ⟨rfl, rfl, (Nat.le_of_ble_eq_true rfl), (Nat.le_of_ble_eq_true rfl)⟩ rfl (Nat.le_of_ble_eq_true rfl) ⟨Nat.zero_le _, Nat.zero_le _⟩ rfl dX6_cell_94 (fun H locs hR hS => ?_)
          refine lv_if_eq (tgt := 112) hx hb dX6_cell_97 (by decide) (fun hc => ?_) (fun hc => ?_)
          · have hf := mm_if1 hc hf
            refine lv_bipush (v := -4) hx hb dX6_cell_112 (by decide) ?_
            exact mm_ire C hR hS hr ((Option.some.inj hf)) rfl dX6_cell_114
          · have hf := mm_if0 hc hf
            refine lv_aload_n hx hb dX6_cell_100 rfl (lv_at hl 0 rfl) ?_
            obtain ⟨v21, ev21, hf⟩ := mm_bd hf
            refine mm_getR C hR fs_X6_10 ev21 dX6_cell_101 ?_
            refine lv_iload_n hx hb dX6_cell_104 rfl (lv_at hl 1 rfl) ?_
            refine lv_iload_n hx hb dX6_cell_105 rfl (lv_at hl 2 rfl) ?_
            obtain ⟨u22, eu22, hf⟩ := mm_bd hf
            obtain ⟨v23, ev23, hf⟩ := mm_bd hf
            refine mm_callVi (As := [.int x1, .int x2]) (rest := []) C hR hS hl.1 vs_X6_98 eu22 (jj_X2_differenceAt l g A M v21 x1 x2 v23 ev23) ⟨rfl, rfl, (Nat.le_of_ble_eq_true rfl), (Nat.le_of_ble_eq_true rfl)⟩ rfl (Nat.le_of_ble_eq_true rfl) ⟨Nat.zero_le _, Nat.zero_le _⟩ rfl dX6_cell_106 (fun H locs hR hS => ?_)
            refine lv_goto (tgt := 114) hx hb dX6_cell_109 (by decide) ?_
            exact mm_ire C hR hS hr ((Option.some.inj hf)) rfl dX6_cell_114
        · have hf := mm_if0 hk17 hf
          by_cases hk24 : x3 = (3 : Int32)
          · have hf := mm_if1 hk24 hf
            refine lv_tableIn (off := 97) (tgt := 115) hx hb dX6_cell_18 (by rw [hk24]; decide) (by rw [hk24]; decide) (by rw [hk24]; decide +kernel) (by decide) ?_
            refine lv_aload_n hx hb dX6_cell_115 rfl (lv_at hl 0 rfl) ?_
            obtain ⟨v25, ev25, hf⟩ := mm_bd hf
            refine mm_getR C hR fs_X6_10 ev25 dX6_cell_116 ?_
            obtain ⟨v26, ev26, hf⟩ := mm_bd hf
            refine mm_getR C hR fs_X6_45 ev26 dX6_cell_119 ?_
            refine lv_iload_n hx hb dX6_cell_122 rfl (lv_at hl 1 rfl) ?_
            refine lv_iload_n hx hb dX6_cell_123 rfl (lv_at hl 2 rfl) ?_
            obtain ⟨u27, eu27, hf⟩ := mm_bd hf
            obtain ⟨v28, ev28, hf⟩ := mm_bd hf
            refine mm_callVi (As := [.int x1, .int x2]) (rest := []) C hR hS hl.1 vs_X6_81 eu27 (jj_X1_isBorder l g A M v26 x1 x2 v28 ev28) ⟨rfl, rfl, (Nat.le_of_ble_eq_true rfl), (Nat.le_of_ble_eq_true rfl)⟩ rfl (Nat.le_of_ble_eq_true rfl) ⟨Nat.zero_le _, Nat.zero_le _⟩ rfl dX6_cell_124 (fun H locs hR hS => ?_)
            refine lv_if_eq (tgt := 145) hx hb dX6_cell_127 (by decide) (fun hc => ?_) (fun hc => ?_)
            · have hf := mm_if1 hc hf
              refine lv_bipush (v := -4) hx hb dX6_cell_145 (by decide) ?_
              exact mm_ire C hR hS hr ((Option.some.inj hf)) rfl dX6_cell_147
            · have hf := mm_if0 hc hf
              refine lv_aload_n hx hb dX6_cell_130 rfl (lv_at hl 0 rfl) ?_
              obtain ⟨v29, ev29, hf⟩ := mm_bd hf
              refine mm_getR C hR fs_X6_10 ev29 dX6_cell_131 ?_
              obtain ⟨v30, ev30, hf⟩ := mm_bd hf
              refine mm_getR C hR fs_X6_45 ev30 dX6_cell_134 ?_
              refine lv_iload_n hx hb dX6_cell_137 rfl (lv_at hl 1 rfl) ?_
              refine lv_iload_n hx hb dX6_cell_138 rfl (lv_at hl 2 rfl) ?_
              obtain ⟨u31, eu31, hf⟩ := mm_bd hf
              obtain ⟨v32, ev32, hf⟩ := mm_bd hf
              refine mm_callVi (As := [.int x1, .int x2]) (rest := []) C hR hS hl.1 vs_X6_101 eu31 (jj_X1_borderNumberAt l g A M v30 x1 x2 v32 ev32) ⟨rfl, rfl, (Nat.le_of_ble_eq_true rfl), (Nat.le_of_ble_eq_true rfl)⟩ rfl (Nat.le_of_ble_eq_true rfl) ⟨Nat.zero_le _, Nat.zero_le _⟩ rfl dX6_cell_139 (fun H locs hR hS => ?_)
              refine lv_goto (tgt := 147) hx hb dX6_cell_142 (by decide) ?_
              exact mm_ire C hR hS hr ((Option.some.inj hf)) rfl dX6_cell_147
          · have hf := mm_if0 hk24 hf
            refine lv_tableOut (tgt := 148) hx hb dX6_cell_18 (by have qhk5 := lv_neT (a := 0) hk5 rfl; have qhk10 := lv_neT (a := 1) hk10 rfl; have qhk17 := lv_neT (a := 2) hk17 rfl; have qhk24 := lv_neT (a := 3) hk24 rfl; omega) (by decide) ?_
            refine lv_iconst (v := -1) hx hb dX6_cell_148 (by decide) ?_
            exact mm_ire C hR hS hr ((Option.some.inj hf)) rfl dX6_cell_149
  · have hf := mm_if1 hc hf
    refine lv_iconst (v := -1) hx hb dX6_cell_15 (by decide) ?_
    exact mm_ire C hR hS hr ((Option.some.inj hf)) rfl dX6_cell_16
def ff_X6_countOfPlan (M : mm_M) (x0 : Nat) (x1 : Int32) : Option Int32 := if x1 = (0 : Int32) then (Option.bind (mm_gR 6 M x0 0) fun v2 => Option.bind (mm_gR 2 M v2 0) fun v3 => Option.bind (mm_gI 1 M v3 4) fun v4 => some v4) else (if x1 = (1 : Int32) then (Option.bind (mm_gR 6 M x0 0) fun v6 => Option.bind (mm_gR 2 M v6 0) fun v7 => Option.bind (mm_gI 1 M v7 5) fun v8 => some v8) else (if x1 = (2 : Int32) then (Option.bind (mm_gR 6 M x0 0) fun v10 => Option.bind (mm_gR 2 M v10 0) fun v11 => Option.bind (mm_ck 1 M v11) fun u12 => Option.bind (ff_X1_borderCells M v11) fun v13 => some v13) else (if x1 = (3 : Int32) then (Option.bind (mm_gR 6 M x0 0) fun v15 => Option.bind (mm_gR 2 M v15 0) fun v16 => Option.bind (mm_gI 1 M v16 2) fun v17 => some v17) else (if x1 = (4 : Int32) then (Option.bind (mm_gR 6 M x0 0) fun v19 => Option.bind (mm_gR 2 M v19 0) fun v20 => Option.bind (mm_gI 1 M v20 3) fun v21 => some v21) else (Option.bind (mm_gR 6 M x0 0) fun v22 => Option.bind (mm_gR 2 M v22 0) fun v23 => Option.bind (mm_ck 1 M v23) fun u24 => Option.bind (ff_X1_borderMeets M v23) fun v25 => if v25 = (0 : Int32) then (some (0 : Int32)) else (some (1 : Int32)))))))
def rm_X6_countOfPlan : Room := { frames := 3, cells := 0, slots := 0, locals := 70 }
set_option maxHeartbeats 4000000 in
set_option maxRecDepth 100000 in
theorem jj_X6_countOfPlan (l : Launch) (g : mm_G) (A : Nat → Prop) (M : mm_M) (x0 : Nat) (x1 : Int32) (r : Int32) (hf : ff_X6_countOfPlan M x0 x1 = some r) : Met l yX6_countOfPlan (mm_ws yX6_countOfPlan cX6_countOfPlan 2 (Option.some Jvm.ClassFile.FieldType.int)) rm_X6_countOfPlan (va_Pc [.ref x0, .int x1] (mm_B g A M)) (mm_Ti g A r M) 0 0 A := by
  refine mm_met (g := g) (lv := [(0, .ref x0), (1, .int x1)]) (fun U h => h.2) (by decide +kernel) (Nat.le_of_ble_eq_true rfl) rfl ?_
  intro p e s m args below meth c ls C hr hnm hB hl
  obtain ⟨hR, hK⟩ := hB
  have hx := C.1
  have hb := C.2.1
  suffices hmain : ∀ (H : Heap) (locs : List Loc), mm_R g A M H → va_S A s.heap H locs → W p l e rm_X6_countOfPlan s m args below meth c H locs 0 0 (MQ below (mm_Ti g A r M) args s 0 0 A) (F0 m 0 ls []) from hmain _ _ hR va_S.rf
  clear hR
  intro H locs hR hS
  unfold ff_X6_countOfPlan at hf
  refine lv_iload_n hx hb dX6_countOfPlan_0 rfl (lv_at hl 1 rfl) ?_
  by_cases hk1 : x1 = (0 : Int32)
  · have hf := mm_if1 hk1 hf
    refine lv_tableIn (off := 35) (tgt := 36) hx hb dX6_countOfPlan_1 (by rw [hk1]; decide) (by rw [hk1]; decide) (by rw [hk1]; decide +kernel) (by decide) ?_
    refine lv_aload_n hx hb dX6_countOfPlan_36 rfl (lv_at hl 0 rfl) ?_
    obtain ⟨v2, ev2, hf⟩ := mm_bd hf
    refine mm_getR C hR fs_X6_10 ev2 dX6_countOfPlan_37 ?_
    obtain ⟨v3, ev3, hf⟩ := mm_bd hf
    refine mm_getR C hR fs_X6_45 ev3 dX6_countOfPlan_40 ?_
    obtain ⟨v4, ev4, hf⟩ := mm_bd hf
    refine mm_getI C hR fs_X6_220 ev4 dX6_countOfPlan_43 ?_
    exact mm_ire C hR hS hr ((Option.some.inj hf)) rfl dX6_countOfPlan_46
  · have hf := mm_if0 hk1 hf
    by_cases hk5 : x1 = (1 : Int32)
    · have hf := mm_if1 hk5 hf
      refine lv_tableIn (off := 46) (tgt := 47) hx hb dX6_countOfPlan_1 (by rw [hk5]; decide) (by rw [hk5]; decide) (by rw [hk5]; decide +kernel) (by decide) ?_
      refine lv_aload_n hx hb dX6_countOfPlan_47 rfl (lv_at hl 0 rfl) ?_
      obtain ⟨v6, ev6, hf⟩ := mm_bd hf
      refine mm_getR C hR fs_X6_10 ev6 dX6_countOfPlan_48 ?_
      obtain ⟨v7, ev7, hf⟩ := mm_bd hf
      refine mm_getR C hR fs_X6_45 ev7 dX6_countOfPlan_51 ?_
      obtain ⟨v8, ev8, hf⟩ := mm_bd hf
      refine mm_getI C hR fs_X6_223 ev8 dX6_countOfPlan_54 ?_
      exact mm_ire C hR hS hr ((Option.some.inj hf)) rfl dX6_countOfPlan_57
    · have hf := mm_if0 hk5 hf
      by_cases hk9 : x1 = (2 : Int32)
      · have hf := mm_if1 hk9 hf
        refine lv_tableIn (off := 57) (tgt := 58) hx hb dX6_countOfPlan_1 (by rw [hk9]; decide) (by rw [hk9]; decide) (by rw [hk9]; decide +kernel) (by decide) ?_
        refine lv_aload_n hx hb dX6_countOfPlan_58 rfl (lv_at hl 0 rfl) ?_
        obtain ⟨v10, ev10, hf⟩ := mm_bd hf
        refine mm_getR C hR fs_X6_10 ev10 dX6_countOfPlan_59 ?_
        obtain ⟨v11, ev11, hf⟩ := mm_bd hf
        refine mm_getR C hR fs_X6_45 ev11 dX6_countOfPlan_62 ?_
        obtain ⟨u12, eu12, hf⟩ := mm_bd hf
        obtain ⟨v13, ev13, hf⟩ := mm_bd hf
        refine mm_callVi (As := []) (rest := []) C hR hS hl.1 vs_X6_226 eu12 (jj_X1_borderCells l g A M v11 v13 ev13) ⟨rfl, rfl, (Nat.le_of_ble_eq_true rfl), (Nat.le_of_ble_eq_true rfl)⟩ rfl (Nat.le_of_ble_eq_true rfl) ⟨Nat.zero_le _, Nat.zero_le _⟩ rfl dX6_countOfPlan_65 (fun H locs hR hS => ?_)
        exact mm_ire C hR hS hr ((Option.some.inj hf)) rfl dX6_countOfPlan_68
      · have hf := mm_if0 hk9 hf
        by_cases hk14 : x1 = (3 : Int32)
        · have hf := mm_if1 hk14 hf
          refine lv_tableIn (off := 68) (tgt := 69) hx hb dX6_countOfPlan_1 (by rw [hk14]; decide) (by rw [hk14]; decide) (by rw [hk14]; decide +kernel) (by decide) ?_
          refine lv_aload_n hx hb dX6_countOfPlan_69 rfl (lv_at hl 0 rfl) ?_
          obtain ⟨v15, ev15, hf⟩ := mm_bd hf
          refine mm_getR C hR fs_X6_10 ev15 dX6_countOfPlan_70 ?_
          obtain ⟨v16, ev16, hf⟩ := mm_bd hf
          refine mm_getR C hR fs_X6_45 ev16 dX6_countOfPlan_73 ?_
          obtain ⟨v17, ev17, hf⟩ := mm_bd hf
          refine mm_getI C hR fs_X6_113 ev17 dX6_countOfPlan_76 ?_
          exact mm_ire C hR hS hr ((Option.some.inj hf)) rfl dX6_countOfPlan_79
        · have hf := mm_if0 hk14 hf
          by_cases hk18 : x1 = (4 : Int32)
          · have hf := mm_if1 hk18 hf
            refine lv_tableIn (off := 79) (tgt := 80) hx hb dX6_countOfPlan_1 (by rw [hk18]; decide) (by rw [hk18]; decide) (by rw [hk18]; decide +kernel) (by decide) ?_
            refine lv_aload_n hx hb dX6_countOfPlan_80 rfl (lv_at hl 0 rfl) ?_
            obtain ⟨v19, ev19, hf⟩ := mm_bd hf
            refine mm_getR C hR fs_X6_10 ev19 dX6_countOfPlan_81 ?_
            obtain ⟨v20, ev20, hf⟩ := mm_bd hf
            refine mm_getR C hR fs_X6_45 ev20 dX6_countOfPlan_84 ?_
            obtain ⟨v21, ev21, hf⟩ := mm_bd hf
            refine mm_getI C hR fs_X6_69 ev21 dX6_countOfPlan_87 ?_
            exact mm_ire C hR hS hr ((Option.some.inj hf)) rfl dX6_countOfPlan_90
          · have hf := mm_if0 hk18 hf
            refine lv_tableOut (tgt := 91) hx hb dX6_countOfPlan_1 (by have qhk1 := lv_neT (a := 0) hk1 rfl; have qhk5 := lv_neT (a := 1) hk5 rfl; have qhk9 := lv_neT (a := 2) hk9 rfl; have qhk14 := lv_neT (a := 3) hk14 rfl; have qhk18 := lv_neT (a := 4) hk18 rfl; omega) (by decide) ?_
            refine lv_aload_n hx hb dX6_countOfPlan_91 rfl (lv_at hl 0 rfl) ?_
            obtain ⟨v22, ev22, hf⟩ := mm_bd hf
            refine mm_getR C hR fs_X6_10 ev22 dX6_countOfPlan_92 ?_
            obtain ⟨v23, ev23, hf⟩ := mm_bd hf
            refine mm_getR C hR fs_X6_45 ev23 dX6_countOfPlan_95 ?_
            obtain ⟨u24, eu24, hf⟩ := mm_bd hf
            obtain ⟨v25, ev25, hf⟩ := mm_bd hf
            refine mm_callVi (As := []) (rest := []) C hR hS hl.1 vs_X6_229 eu24 (jj_X1_borderMeets l g A M v23 v25 ev25) ⟨rfl, rfl, (Nat.le_of_ble_eq_true rfl), (Nat.le_of_ble_eq_true rfl)⟩ rfl (Nat.le_of_ble_eq_true rfl) ⟨Nat.zero_le _, Nat.zero_le _⟩ rfl dX6_countOfPlan_98 (fun H locs hR hS => ?_)
            refine lv_if_eq (tgt := 108) hx hb dX6_countOfPlan_101 (by decide) (fun hc => ?_) (fun hc => ?_)
            · have hf := mm_if1 hc hf
              refine lv_iconst (v := 0) hx hb dX6_countOfPlan_108 (by decide) ?_
              exact mm_ire C hR hS hr ((Option.some.inj hf)) rfl dX6_countOfPlan_109
            · have hf := mm_if0 hc hf
              refine lv_iconst (v := 1) hx hb dX6_countOfPlan_104 (by decide) ?_
              refine lv_goto (tgt := 109) hx hb dX6_countOfPlan_105 (by decide) ?_
              exact mm_ire C hR hS hr ((Option.some.inj hf)) rfl dX6_countOfPlan_109
def ff_X6_countOfWork (M : mm_M) (x0 : Nat) (x1 : Int32) : Option Int32 := if x1 = (6 : Int32) then (Option.bind (mm_gR 6 M x0 0) fun v2 => Option.bind (mm_ck 2 M v2) fun u3 => Option.bind (ff_X2_laidCells M v2) fun v4 => some v4) else (if x1 = (7 : Int32) then (Option.bind (mm_gR 6 M x0 0) fun v6 => Option.bind (mm_ck 2 M v6) fun u7 => Option.bind (ff_X2_sumOfDifferences M v6) fun v8 => some v8) else (if x1 = (8 : Int32) then (Option.bind (mm_gR 6 M x0 0) fun v10 => Option.bind (mm_ck 2 M v10) fun u11 => Option.bind (ff_X2_laidCells M v10) fun v12 => if v12 ≤ (0 : Int32) then (some (-4 : Int32)) else (Option.bind (mm_gR 6 M x0 0) fun v13 => Option.bind (mm_ck 2 M v13) fun u14 => Option.bind (ff_X2_greatestDifference M v13) fun v15 => some v15)) else (if x1 = (9 : Int32) then (Option.bind (mm_gR 6 M x0 0) fun v17 => Option.bind (mm_gR 2 M v17 1) fun v18 => Option.bind (mm_gI 3 M v18 2) fun v19 => some v19) else (if x1 = (10 : Int32) then (Option.bind (mm_gR 6 M x0 0) fun v21 => Option.bind (mm_gR 2 M v21 1) fun v22 => Option.bind (mm_ck 3 M v22) fun u23 => Option.bind (ff_X3_tesseraeAtHand M v22) fun v24 => some v24) else (if x1 = (11 : Int32) then (Option.bind (mm_gR 6 M x0 0) fun v26 => Option.bind (mm_gR 2 M v26 1) fun v27 => Option.bind (mm_gI 3 M v27 5) fun v28 => some v28) else (if x1 = (12 : Int32) then (Option.bind (mm_gR 6 M x0 0) fun v30 => Option.bind (mm_gI 2 M v30 3) fun v31 => some v31) else (if x1 = (13 : Int32) then (Option.bind (mm_gR 6 M x0 2) fun v33 => Option.bind (mm_ck 0 M v33) fun u34 => Option.bind (ff_X0_states M v33) fun v35 => some v35) else (if x1 = (14 : Int32) then (Option.bind (mm_gR 6 M x0 3) fun v37 => Option.bind (mm_gI 5 M v37 1) fun v38 => some v38) else (if x1 = (15 : Int32) then (Option.bind (mm_gR 6 M x0 0) fun v40 => Option.bind (mm_gR 2 M v40 1) fun v41 => Option.bind (mm_gI 3 M v41 3) fun v42 => some v42) else (Option.bind (mm_gR 6 M x0 0) fun v43 => Option.bind (mm_gR 2 M v43 1) fun v44 => Option.bind (mm_gI 3 M v44 4) fun v45 => some v45))))))))))
def rm_X6_countOfWork : Room := { frames := 5, cells := 0, slots := 0, locals := 114 }
set_option maxHeartbeats 4000000 in
set_option maxRecDepth 100000 in
theorem jj_X6_countOfWork (l : Launch) (g : mm_G) (A : Nat → Prop) (M : mm_M) (x0 : Nat) (x1 : Int32) (r : Int32) (hf : ff_X6_countOfWork M x0 x1 = some r) : Met l yX6_countOfWork (mm_ws yX6_countOfWork cX6_countOfWork 2 (Option.some Jvm.ClassFile.FieldType.int)) rm_X6_countOfWork (va_Pc [.ref x0, .int x1] (mm_B g A M)) (mm_Ti g A r M) 0 0 A := by
  refine mm_met (g := g) (lv := [(0, .ref x0), (1, .int x1)]) (fun U h => h.2) (by decide +kernel) (Nat.le_of_ble_eq_true rfl) rfl ?_
  intro p e s m args below meth c ls C hr hnm hB hl
  obtain ⟨hR, hK⟩ := hB
  have hx := C.1
  have hb := C.2.1
  suffices hmain : ∀ (H : Heap) (locs : List Loc), mm_R g A M H → va_S A s.heap H locs → W p l e rm_X6_countOfWork s m args below meth c H locs 0 0 (MQ below (mm_Ti g A r M) args s 0 0 A) (F0 m 0 ls []) from hmain _ _ hR va_S.rf
  clear hR
  intro H locs hR hS
  unfold ff_X6_countOfWork at hf
  refine lv_iload_n hx hb dX6_countOfWork_0 rfl (lv_at hl 1 rfl) ?_
  by_cases hk1 : x1 = (6 : Int32)
  · have hf := mm_if1 hk1 hf
    refine lv_tableIn (off := 55) (tgt := 56) hx hb dX6_countOfWork_1 (by rw [hk1]; decide) (by rw [hk1]; decide) (by rw [hk1]; decide +kernel) (by decide) ?_
    refine lv_aload_n hx hb dX6_countOfWork_56 rfl (lv_at hl 0 rfl) ?_
    obtain ⟨v2, ev2, hf⟩ := mm_bd hf
    refine mm_getR C hR fs_X6_10 ev2 dX6_countOfWork_57 ?_
    obtain ⟨u3, eu3, hf⟩ := mm_bd hf
    obtain ⟨v4, ev4, hf⟩ := mm_bd hf
    refine mm_callVi (As := []) (rest := []) C hR hS hl.1 vs_X6_37 eu3 (jj_X2_laidCells l g A M v2 v4 ev4) ⟨rfl, rfl, (Nat.le_of_ble_eq_true rfl), (Nat.le_of_ble_eq_true rfl)⟩ rfl (Nat.le_of_ble_eq_true rfl) ⟨Nat.zero_le _, Nat.zero_le _⟩ rfl dX6_countOfWork_60 (fun H locs hR hS => ?_)
    exact mm_ire C hR hS hr ((Option.some.inj hf)) rfl dX6_countOfWork_63
  · have hf := mm_if0 hk1 hf
    by_cases hk5 : x1 = (7 : Int32)
    · have hf := mm_if1 hk5 hf
      refine lv_tableIn (off := 63) (tgt := 64) hx hb dX6_countOfWork_1 (by rw [hk5]; decide) (by rw [hk5]; decide) (by rw [hk5]; decide +kernel) (by decide) ?_
      refine lv_aload_n hx hb dX6_countOfWork_64 rfl (lv_at hl 0 rfl) ?_
      obtain ⟨v6, ev6, hf⟩ := mm_bd hf
      refine mm_getR C hR fs_X6_10 ev6 dX6_countOfWork_65 ?_
      obtain ⟨u7, eu7, hf⟩ := mm_bd hf
      obtain ⟨v8, ev8, hf⟩ := mm_bd hf
      refine mm_callVi (As := []) (rest := []) C hR hS hl.1 vs_X6_210 eu7 (jj_X2_sumOfDifferences l g A M v6 v8 ev8) ⟨rfl, rfl, (Nat.le_of_ble_eq_true rfl), (Nat.le_of_ble_eq_true rfl)⟩ rfl (Nat.le_of_ble_eq_true rfl) ⟨Nat.zero_le _, Nat.zero_le _⟩ rfl dX6_countOfWork_68 (fun H locs hR hS => ?_)
      exact mm_ire C hR hS hr ((Option.some.inj hf)) rfl dX6_countOfWork_71
    · have hf := mm_if0 hk5 hf
      by_cases hk9 : x1 = (8 : Int32)
      · have hf := mm_if1 hk9 hf
        refine lv_tableIn (off := 71) (tgt := 72) hx hb dX6_countOfWork_1 (by rw [hk9]; decide) (by rw [hk9]; decide) (by rw [hk9]; decide +kernel) (by decide) ?_
        refine lv_aload_n hx hb dX6_countOfWork_72 rfl (lv_at hl 0 rfl) ?_
        obtain ⟨v10, ev10, hf⟩ := mm_bd hf
        refine mm_getR C hR fs_X6_10 ev10 dX6_countOfWork_73 ?_
        obtain ⟨u11, eu11, hf⟩ := mm_bd hf
        obtain ⟨v12, ev12, hf⟩ := mm_bd hf
        refine mm_callVi (As := []) (rest := []) C hR hS hl.1 vs_X6_37 eu11 (jj_X2_laidCells l g A M v10 v12 ev12) ⟨rfl, rfl, (Nat.le_of_ble_eq_true rfl), (Nat.le_of_ble_eq_true rfl)⟩ rfl (Nat.le_of_ble_eq_true rfl) ⟨Nat.zero_le _, Nat.zero_le _⟩ rfl dX6_countOfWork_76 (fun H locs hR hS => ?_)
        refine lv_if_le (tgt := 92) hx hb dX6_countOfWork_79 (by decide) (fun hc => ?_) (fun hc => ?_)
        · have hf := mm_if1 hc hf
          refine lv_bipush (v := -4) hx hb dX6_countOfWork_92 (by decide) ?_
          exact mm_ire C hR hS hr ((Option.some.inj hf)) rfl dX6_countOfWork_94
        · have hf := mm_if0 hc hf
          refine lv_aload_n hx hb dX6_countOfWork_82 rfl (lv_at hl 0 rfl) ?_
          obtain ⟨v13, ev13, hf⟩ := mm_bd hf
          refine mm_getR C hR fs_X6_10 ev13 dX6_countOfWork_83 ?_
          obtain ⟨u14, eu14, hf⟩ := mm_bd hf
          obtain ⟨v15, ev15, hf⟩ := mm_bd hf
          refine mm_callVi (As := []) (rest := []) C hR hS hl.1 vs_X6_233 eu14 (jj_X2_greatestDifference l g A M v13 v15 ev15) ⟨rfl, rfl, (Nat.le_of_ble_eq_true rfl), (Nat.le_of_ble_eq_true rfl)⟩ rfl (Nat.le_of_ble_eq_true rfl) ⟨Nat.zero_le _, Nat.zero_le _⟩ rfl dX6_countOfWork_86 (fun H locs hR hS => ?_)
          refine lv_goto (tgt := 94) hx hb dX6_countOfWork_89 (by decide) ?_
          exact mm_ire C hR hS hr ((Option.some.inj hf)) rfl dX6_countOfWork_94
      · have hf := mm_if0 hk9 hf
        by_cases hk16 : x1 = (9 : Int32)
        · have hf := mm_if1 hk16 hf
          refine lv_tableIn (off := 94) (tgt := 95) hx hb dX6_countOfWork_1 (by rw [hk16]; decide) (by rw [hk16]; decide) (by rw [hk16]; decide +kernel) (by decide) ?_
          refine lv_aload_n hx hb dX6_countOfWork_95 rfl (lv_at hl 0 rfl) ?_
          obtain ⟨v17, ev17, hf⟩ := mm_bd hf
          refine mm_getR C hR fs_X6_10 ev17 dX6_countOfWork_96 ?_
          obtain ⟨v18, ev18, hf⟩ := mm_bd hf
          refine mm_getR C hR fs_X6_125 ev18 dX6_countOfWork_99 ?_
          obtain ⟨v19, ev19, hf⟩ := mm_bd hf
          refine mm_getI C hR fs_X6_129 ev19 dX6_countOfWork_102 ?_
          exact mm_ire C hR hS hr ((Option.some.inj hf)) rfl dX6_countOfWork_105
        · have hf := mm_if0 hk16 hf
          by_cases hk20 : x1 = (10 : Int32)
          · have hf := mm_if1 hk20 hf
            refine lv_tableIn (off := 105) (tgt := 106) hx hb dX6_countOfWork_1 (by rw [hk20]; decide) (by rw [hk20]; decide) (by rw [hk20]; decide +kernel) (by decide) ?_
            refine lv_aload_n hx hb dX6_countOfWork_106 rfl (lv_at hl 0 rfl) ?_
            obtain ⟨v21, ev21, hf⟩ := mm_bd hf
            refine mm_getR C hR fs_X6_10 ev21 dX6_countOfWork_107 ?_
            obtain ⟨v22, ev22, hf⟩ := mm_bd hf
            refine mm_getR C hR fs_X6_125 ev22 dX6_countOfWork_110 ?_
            obtain ⟨u23, eu23, hf⟩ := mm_bd hf
            obtain ⟨v24, ev24, hf⟩ := mm_bd hf
            refine mm_callVi (As := []) (rest := []) C hR hS hl.1 vs_X6_236 eu23 (jj_X3_tesseraeAtHand l g A M v22 v24 ev24) ⟨rfl, rfl, (Nat.le_of_ble_eq_true rfl), (Nat.le_of_ble_eq_true rfl)⟩ rfl (Nat.le_of_ble_eq_true rfl) ⟨Nat.zero_le _, Nat.zero_le _⟩ rfl dX6_countOfWork_113 (fun H locs hR hS => ?_)
            exact mm_ire C hR hS hr ((Option.some.inj hf)) rfl dX6_countOfWork_116
          · have hf := mm_if0 hk20 hf
            by_cases hk25 : x1 = (11 : Int32)
            · have hf := mm_if1 hk25 hf
              refine lv_tableIn (off := 116) (tgt := 117) hx hb dX6_countOfWork_1 (by rw [hk25]; decide) (by rw [hk25]; decide) (by rw [hk25]; decide +kernel) (by decide) ?_
              refine lv_aload_n hx hb dX6_countOfWork_117 rfl (lv_at hl 0 rfl) ?_
              obtain ⟨v26, ev26, hf⟩ := mm_bd hf
              refine mm_getR C hR fs_X6_10 ev26 dX6_countOfWork_118 ?_
              obtain ⟨v27, ev27, hf⟩ := mm_bd hf
              refine mm_getR C hR fs_X6_125 ev27 dX6_countOfWork_121 ?_
              obtain ⟨v28, ev28, hf⟩ := mm_bd hf
              refine mm_getI C hR fs_X6_239 ev28 dX6_countOfWork_124 ?_
              exact mm_ire C hR hS hr ((Option.some.inj hf)) rfl dX6_countOfWork_127
            · have hf := mm_if0 hk25 hf
              by_cases hk29 : x1 = (12 : Int32)
              · have hf := mm_if1 hk29 hf
                refine lv_tableIn (off := 127) (tgt := 128) hx hb dX6_countOfWork_1 (by rw [hk29]; decide) (by rw [hk29]; decide) (by rw [hk29]; decide +kernel) (by decide) ?_
                refine lv_aload_n hx hb dX6_countOfWork_128 rfl (lv_at hl 0 rfl) ?_
                obtain ⟨v30, ev30, hf⟩ := mm_bd hf
                refine mm_getR C hR fs_X6_10 ev30 dX6_countOfWork_129 ?_
                obtain ⟨v31, ev31, hf⟩ := mm_bd hf
                refine mm_getI C hR fs_X6_242 ev31 dX6_countOfWork_132 ?_
                exact mm_ire C hR hS hr ((Option.some.inj hf)) rfl dX6_countOfWork_135
              · have hf := mm_if0 hk29 hf
                by_cases hk32 : x1 = (13 : Int32)
                · have hf := mm_if1 hk32 hf
                  refine lv_tableIn (off := 135) (tgt := 136) hx hb dX6_countOfWork_1 (by rw [hk32]; decide) (by rw [hk32]; decide) (by rw [hk32]; decide +kernel) (by decide) ?_
                  refine lv_aload_n hx hb dX6_countOfWork_136 rfl (lv_at hl 0 rfl) ?_
                  obtain ⟨v33, ev33, hf⟩ := mm_bd hf
                  refine mm_getR C hR fs_X6_22 ev33 dX6_countOfWork_137 ?_
                  obtain ⟨u34, eu34, hf⟩ := mm_bd hf
                  obtain ⟨v35, ev35, hf⟩ := mm_bd hf
                  refine mm_callVi (As := []) (rest := []) C hR hS hl.1 vs_X6_119 eu34 (jj_X0_states l g A M v33 v35 ev35) ⟨rfl, rfl, (Nat.le_of_ble_eq_true rfl), (Nat.le_of_ble_eq_true rfl)⟩ rfl (Nat.le_of_ble_eq_true rfl) ⟨Nat.zero_le _, Nat.zero_le _⟩ rfl dX6_countOfWork_140 (fun H locs hR hS => ?_)
                  exact mm_ire C hR hS hr ((Option.some.inj hf)) rfl dX6_countOfWork_143
                · have hf := mm_if0 hk32 hf
                  by_cases hk36 : x1 = (14 : Int32)
                  · have hf := mm_if1 hk36 hf
                    refine lv_tableIn (off := 143) (tgt := 144) hx hb dX6_countOfWork_1 (by rw [hk36]; decide) (by rw [hk36]; decide) (by rw [hk36]; decide +kernel) (by decide) ?_
                    refine lv_aload_n hx hb dX6_countOfWork_144 rfl (lv_at hl 0 rfl) ?_
                    obtain ⟨v37, ev37, hf⟩ := mm_bd hf
                    refine mm_getR C hR fs_X6_29 ev37 dX6_countOfWork_145 ?_
                    obtain ⟨v38, ev38, hf⟩ := mm_bd hf
                    refine mm_getI C hR fs_X6_213 ev38 dX6_countOfWork_148 ?_
                    exact mm_ire C hR hS hr ((Option.some.inj hf)) rfl dX6_countOfWork_151
                  · have hf := mm_if0 hk36 hf
                    by_cases hk39 : x1 = (15 : Int32)
                    · have hf := mm_if1 hk39 hf
                      refine lv_tableIn (off := 151) (tgt := 152) hx hb dX6_countOfWork_1 (by rw [hk39]; decide) (by rw [hk39]; decide) (by rw [hk39]; decide +kernel) (by decide) ?_
                      refine lv_aload_n hx hb dX6_countOfWork_152 rfl (lv_at hl 0 rfl) ?_
                      obtain ⟨v40, ev40, hf⟩ := mm_bd hf
                      refine mm_getR C hR fs_X6_10 ev40 dX6_countOfWork_153 ?_
                      obtain ⟨v41, ev41, hf⟩ := mm_bd hf
                      refine mm_getR C hR fs_X6_125 ev41 dX6_countOfWork_156 ?_
                      obtain ⟨v42, ev42, hf⟩ := mm_bd hf
                      refine mm_getI C hR fs_X6_162 ev42 dX6_countOfWork_159 ?_
                      exact mm_ire C hR hS hr ((Option.some.inj hf)) rfl dX6_countOfWork_162
                    · have hf := mm_if0 hk39 hf
                      refine lv_tableOut (tgt := 163) hx hb dX6_countOfWork_1 (by have qhk1 := lv_neT (a := 6) hk1 rfl; have qhk5 := lv_neT (a := 7) hk5 rfl; have qhk9 := lv_neT (a := 8) hk9 rfl; have qhk16 := lv_neT (a := 9) hk16 rfl; have qhk20 := lv_neT (a := 10) hk20 rfl; have qhk25 := lv_neT (a := 11) hk25 rfl; have qhk29 := lv_neT (a := 12) hk29 rfl; have qhk32 := lv_neT (a := 13) hk32 rfl; have qhk36 := lv_neT (a := 14) hk36 rfl; have qhk39 := lv_neT (a := 15) hk39 rfl; omega) (by decide) ?_
                      refine lv_aload_n hx hb dX6_countOfWork_163 rfl (lv_at hl 0 rfl) ?_
                      obtain ⟨v43, ev43, hf⟩ := mm_bd hf
                      refine mm_getR C hR fs_X6_10 ev43 dX6_countOfWork_164 ?_
                      obtain ⟨v44, ev44, hf⟩ := mm_bd hf
                      refine mm_getR C hR fs_X6_125 ev44 dX6_countOfWork_167 ?_
                      obtain ⟨v45, ev45, hf⟩ := mm_bd hf
                      refine mm_getI C hR fs_X6_172 ev45 dX6_countOfWork_170 ?_
                      exact mm_ire C hR hS hr ((Option.some.inj hf)) rfl dX6_countOfWork_173
def ff_X6_account (M : mm_M) (x0 : Nat) (x1 : Int32) : Option Int32 := if x1 = (0 : Int32) then (Option.bind (mm_gR 6 M x0 0) fun v2 => Option.bind (mm_gR 2 M v2 1) fun v3 => Option.bind (mm_ck 3 M v3) fun u4 => Option.bind (ff_X3_lengthOfStrips M v3) fun v5 => some v5) else (if x1 = (1 : Int32) then (Option.bind (mm_gR 6 M x0 0) fun v7 => Option.bind (mm_gR 2 M v7 1) fun v8 => Option.bind (mm_ck 3 M v8) fun u9 => Option.bind (ff_X3_leftOfStrips M v8) fun v10 => some v10) else (if x1 = (2 : Int32) then (Option.bind (mm_gR 6 M x0 0) fun v12 => Option.bind (mm_gR 2 M v12 1) fun v13 => Option.bind (mm_ck 3 M v13) fun u14 => Option.bind (ff_X3_tesseraeAtHand M v13) fun v15 => Option.bind (mm_gR 6 M x0 0) fun v16 => Option.bind (mm_gR 2 M v16 1) fun v17 => Option.bind (mm_gI 3 M v17 3) fun v18 => some (v15 * v18)) else (if x1 = (3 : Int32) then (Option.bind (mm_gR 6 M x0 0) fun v20 => Option.bind (mm_ck 2 M v20) fun u21 => Option.bind (ff_X2_laidCells M v20) fun v22 => Option.bind (mm_gR 6 M x0 0) fun v23 => Option.bind (mm_gR 2 M v23 1) fun v24 => Option.bind (mm_gI 3 M v24 3) fun v25 => some (v22 * v25)) else (if x1 = (4 : Int32) then (Option.bind (mm_gR 6 M x0 0) fun v27 => Option.bind (mm_gR 2 M v27 1) fun v28 => Option.bind (mm_gI 3 M v28 6) fun v29 => some v29) else (if x1 = (5 : Int32) then (Option.bind (mm_gR 6 M x0 0) fun v31 => Option.bind (mm_gR 2 M v31 1) fun v32 => Option.bind (mm_gI 3 M v32 7) fun v33 => some v33) else (Option.bind (mm_gR 6 M x0 0) fun v34 => Option.bind (mm_gR 2 M v34 1) fun v35 => Option.bind (mm_gI 3 M v35 8) fun v36 => some v36))))))
def rm_X6_account : Room := { frames := 2, cells := 0, slots := 0, locals := 45 }
set_option maxHeartbeats 4000000 in
set_option maxRecDepth 100000 in
theorem jj_X6_account (l : Launch) (g : mm_G) (A : Nat → Prop) (M : mm_M) (x0 : Nat) (x1 : Int32) (r : Int32) (hf : ff_X6_account M x0 x1 = some r) : Met l yX6_account (mm_ws yX6_account cX6_account 2 (Option.some Jvm.ClassFile.FieldType.int)) rm_X6_account (va_Pc [.ref x0, .int x1] (mm_B g A M)) (mm_Ti g A r M) 0 0 A := by
  refine mm_met (g := g) (lv := [(0, .ref x0), (1, .int x1)]) (fun U h => h.2) (by decide +kernel) (Nat.le_of_ble_eq_true rfl) rfl ?_
  intro p e s m args below meth c ls C hr hnm hB hl
  obtain ⟨hR, hK⟩ := hB
  have hx := C.1
  have hb := C.2.1
  suffices hmain : ∀ (H : Heap) (locs : List Loc), mm_R g A M H → va_S A s.heap H locs → W p l e rm_X6_account s m args below meth c H locs 0 0 (MQ below (mm_Ti g A r M) args s 0 0 A) (F0 m 0 ls []) from hmain _ _ hR va_S.rf
  clear hR
  intro H locs hR hS
  unfold ff_X6_account at hf
  refine lv_iload_n hx hb dX6_account_0 rfl (lv_at hl 1 rfl) ?_
  by_cases hk1 : x1 = (0 : Int32)
  · have hf := mm_if1 hk1 hf
    refine lv_tableIn (off := 39) (tgt := 40) hx hb dX6_account_1 (by rw [hk1]; decide) (by rw [hk1]; decide) (by rw [hk1]; decide +kernel) (by decide) ?_
    refine lv_aload_n hx hb dX6_account_40 rfl (lv_at hl 0 rfl) ?_
    obtain ⟨v2, ev2, hf⟩ := mm_bd hf
    refine mm_getR C hR fs_X6_10 ev2 dX6_account_41 ?_
    obtain ⟨v3, ev3, hf⟩ := mm_bd hf
    refine mm_getR C hR fs_X6_125 ev3 dX6_account_44 ?_
    obtain ⟨u4, eu4, hf⟩ := mm_bd hf
    obtain ⟨v5, ev5, hf⟩ := mm_bd hf
    refine mm_callVi (As := []) (rest := []) C hR hS hl.1 vs_X6_245 eu4 (jj_X3_lengthOfStrips l g A M v3 v5 ev5) ⟨rfl, rfl, (Nat.le_of_ble_eq_true rfl), (Nat.le_of_ble_eq_true rfl)⟩ rfl (Nat.le_of_ble_eq_true rfl) ⟨Nat.zero_le _, Nat.zero_le _⟩ rfl dX6_account_47 (fun H locs hR hS => ?_)
    exact mm_ire C hR hS hr ((Option.some.inj hf)) rfl dX6_account_50
  · have hf := mm_if0 hk1 hf
    by_cases hk6 : x1 = (1 : Int32)
    · have hf := mm_if1 hk6 hf
      refine lv_tableIn (off := 50) (tgt := 51) hx hb dX6_account_1 (by rw [hk6]; decide) (by rw [hk6]; decide) (by rw [hk6]; decide +kernel) (by decide) ?_
      refine lv_aload_n hx hb dX6_account_51 rfl (lv_at hl 0 rfl) ?_
      obtain ⟨v7, ev7, hf⟩ := mm_bd hf
      refine mm_getR C hR fs_X6_10 ev7 dX6_account_52 ?_
      obtain ⟨v8, ev8, hf⟩ := mm_bd hf
      refine mm_getR C hR fs_X6_125 ev8 dX6_account_55 ?_
      obtain ⟨u9, eu9, hf⟩ := mm_bd hf
      obtain ⟨v10, ev10, hf⟩ := mm_bd hf
      refine mm_callVi (As := []) (rest := []) C hR hS hl.1 vs_X6_248 eu9 (jj_X3_leftOfStrips l g A M v8 v10 ev10) ⟨rfl, rfl, (Nat.le_of_ble_eq_true rfl), (Nat.le_of_ble_eq_true rfl)⟩ rfl (Nat.le_of_ble_eq_true rfl) ⟨Nat.zero_le _, Nat.zero_le _⟩ rfl dX6_account_58 (fun H locs hR hS => ?_)
      exact mm_ire C hR hS hr ((Option.some.inj hf)) rfl dX6_account_61
    · have hf := mm_if0 hk6 hf
      by_cases hk11 : x1 = (2 : Int32)
      · have hf := mm_if1 hk11 hf
        refine lv_tableIn (off := 61) (tgt := 62) hx hb dX6_account_1 (by rw [hk11]; decide) (by rw [hk11]; decide) (by rw [hk11]; decide +kernel) (by decide) ?_
        refine lv_aload_n hx hb dX6_account_62 rfl (lv_at hl 0 rfl) ?_
        obtain ⟨v12, ev12, hf⟩ := mm_bd hf
        refine mm_getR C hR fs_X6_10 ev12 dX6_account_63 ?_
        obtain ⟨v13, ev13, hf⟩ := mm_bd hf
        refine mm_getR C hR fs_X6_125 ev13 dX6_account_66 ?_
        obtain ⟨u14, eu14, hf⟩ := mm_bd hf
        obtain ⟨v15, ev15, hf⟩ := mm_bd hf
        refine mm_callVi (As := []) (rest := []) C hR hS hl.1 vs_X6_236 eu14 (jj_X3_tesseraeAtHand l g A M v13 v15 ev15) ⟨rfl, rfl, (Nat.le_of_ble_eq_true rfl), (Nat.le_of_ble_eq_true rfl)⟩ rfl (Nat.le_of_ble_eq_true rfl) ⟨Nat.zero_le _, Nat.zero_le _⟩ rfl dX6_account_69 (fun H locs hR hS => ?_)
        refine lv_aload_n hx hb dX6_account_72 rfl (lv_at hl 0 rfl) ?_
        obtain ⟨v16, ev16, hf⟩ := mm_bd hf
        refine mm_getR C hR fs_X6_10 ev16 dX6_account_73 ?_
        obtain ⟨v17, ev17, hf⟩ := mm_bd hf
        refine mm_getR C hR fs_X6_125 ev17 dX6_account_76 ?_
        obtain ⟨v18, ev18, hf⟩ := mm_bd hf
        refine mm_getI C hR fs_X6_162 ev18 dX6_account_79 ?_
        refine lv_imul hx hb dX6_account_82 ?_
        exact mm_ire C hR hS hr ((Option.some.inj hf)) rfl dX6_account_83
      · have hf := mm_if0 hk11 hf
        by_cases hk19 : x1 = (3 : Int32)
        · have hf := mm_if1 hk19 hf
          refine lv_tableIn (off := 83) (tgt := 84) hx hb dX6_account_1 (by rw [hk19]; decide) (by rw [hk19]; decide) (by rw [hk19]; decide +kernel) (by decide) ?_
          refine lv_aload_n hx hb dX6_account_84 rfl (lv_at hl 0 rfl) ?_
          obtain ⟨v20, ev20, hf⟩ := mm_bd hf
          refine mm_getR C hR fs_X6_10 ev20 dX6_account_85 ?_
          obtain ⟨u21, eu21, hf⟩ := mm_bd hf
          obtain ⟨v22, ev22, hf⟩ := mm_bd hf
          refine mm_callVi (As := []) (rest := []) C hR hS hl.1 vs_X6_37 eu21 (jj_X2_laidCells l g A M v20 v22 ev22) ⟨rfl, rfl, (Nat.le_of_ble_eq_true rfl), (Nat.le_of_ble_eq_true rfl)⟩ rfl (Nat.le_of_ble_eq_true rfl) ⟨Nat.zero_le _, Nat.zero_le _⟩ rfl dX6_account_88 (fun H locs hR hS => ?_)
          refine lv_aload_n hx hb dX6_account_91 rfl (lv_at hl 0 rfl) ?_
          obtain ⟨v23, ev23, hf⟩ := mm_bd hf
          refine mm_getR C hR fs_X6_10 ev23 dX6_account_92 ?_
          obtain ⟨v24, ev24, hf⟩ := mm_bd hf
          refine mm_getR C hR fs_X6_125 ev24 dX6_account_95 ?_
          obtain ⟨v25, ev25, hf⟩ := mm_bd hf
          refine mm_getI C hR fs_X6_162 ev25 dX6_account_98 ?_
          refine lv_imul hx hb dX6_account_101 ?_
          exact mm_ire C hR hS hr ((Option.some.inj hf)) rfl dX6_account_102
        · have hf := mm_if0 hk19 hf
          by_cases hk26 : x1 = (4 : Int32)
          · have hf := mm_if1 hk26 hf
            refine lv_tableIn (off := 102) (tgt := 103) hx hb dX6_account_1 (by rw [hk26]; decide) (by rw [hk26]; decide) (by rw [hk26]; decide +kernel) (by decide) ?_
            refine lv_aload_n hx hb dX6_account_103 rfl (lv_at hl 0 rfl) ?_
            obtain ⟨v27, ev27, hf⟩ := mm_bd hf
            refine mm_getR C hR fs_X6_10 ev27 dX6_account_104 ?_
            obtain ⟨v28, ev28, hf⟩ := mm_bd hf
            refine mm_getR C hR fs_X6_125 ev28 dX6_account_107 ?_
            obtain ⟨v29, ev29, hf⟩ := mm_bd hf
            refine mm_getI C hR fs_X6_251 ev29 dX6_account_110 ?_
            exact mm_ire C hR hS hr ((Option.some.inj hf)) rfl dX6_account_113
          · have hf := mm_if0 hk26 hf
            by_cases hk30 : x1 = (5 : Int32)
            · have hf := mm_if1 hk30 hf
              refine lv_tableIn (off := 113) (tgt := 114) hx hb dX6_account_1 (by rw [hk30]; decide) (by rw [hk30]; decide) (by rw [hk30]; decide +kernel) (by decide) ?_
              refine lv_aload_n hx hb dX6_account_114 rfl (lv_at hl 0 rfl) ?_
              obtain ⟨v31, ev31, hf⟩ := mm_bd hf
              refine mm_getR C hR fs_X6_10 ev31 dX6_account_115 ?_
              obtain ⟨v32, ev32, hf⟩ := mm_bd hf
              refine mm_getR C hR fs_X6_125 ev32 dX6_account_118 ?_
              obtain ⟨v33, ev33, hf⟩ := mm_bd hf
              refine mm_getI C hR fs_X6_254 ev33 dX6_account_121 ?_
              exact mm_ire C hR hS hr ((Option.some.inj hf)) rfl dX6_account_124
            · have hf := mm_if0 hk30 hf
              refine lv_tableOut (tgt := 125) hx hb dX6_account_1 (by have qhk1 := lv_neT (a := 0) hk1 rfl; have qhk6 := lv_neT (a := 1) hk6 rfl; have qhk11 := lv_neT (a := 2) hk11 rfl; have qhk19 := lv_neT (a := 3) hk19 rfl; have qhk26 := lv_neT (a := 4) hk26 rfl; have qhk30 := lv_neT (a := 5) hk30 rfl; omega) (by decide) ?_
              refine lv_aload_n hx hb dX6_account_125 rfl (lv_at hl 0 rfl) ?_
              obtain ⟨v34, ev34, hf⟩ := mm_bd hf
              refine mm_getR C hR fs_X6_10 ev34 dX6_account_126 ?_
              obtain ⟨v35, ev35, hf⟩ := mm_bd hf
              refine mm_getR C hR fs_X6_125 ev35 dX6_account_129 ?_
              obtain ⟨v36, ev36, hf⟩ := mm_bd hf
              refine mm_getI C hR fs_X6_257 ev36 dX6_account_132 ?_
              exact mm_ire C hR hS hr ((Option.some.inj hf)) rfl dX6_account_135
def ff_X6_count (M : mm_M) (x0 : Nat) (x1 : Int32) : Option Int32 := Option.bind (ff_X6_isWithin M x1 (0 : Int32) (5 : Int32)) fun v1 => if v1 = (0 : Int32) then (Option.bind (ff_X6_isWithin M x1 (6 : Int32) (16 : Int32)) fun v2 => if v2 = (0 : Int32) then (Option.bind (ff_X6_isWithin M x1 (20 : Int32) (26 : Int32)) fun v3 => if v3 = (0 : Int32) then (some (-1 : Int32)) else (Option.bind (mm_ck 6 M x0) fun u4 => Option.bind (ff_X6_account M x0 (x1 - (20 : Int32))) fun v5 => some v5)) else (Option.bind (mm_ck 6 M x0) fun u6 => Option.bind (ff_X6_countOfWork M x0 x1) fun v7 => some v7)) else (Option.bind (mm_ck 6 M x0) fun u8 => Option.bind (ff_X6_countOfPlan M x0 x1) fun v9 => some v9)
def rm_X6_count : Room := { frames := 6, cells := 0, slots := 0, locals := 135 }
set_option maxHeartbeats 4000000 in
set_option maxRecDepth 100000 in
theorem jj_X6_count (l : Launch) (g : mm_G) (A : Nat → Prop) (M : mm_M) (x0 : Nat) (x1 : Int32) (r : Int32) (hf : ff_X6_count M x0 x1 = some r) : Met l yX6_count (mm_ws yX6_count cX6_count 2 (Option.some Jvm.ClassFile.FieldType.int)) rm_X6_count (va_Pc [.ref x0, .int x1] (mm_B g A M)) (mm_Ti g A r M) 0 0 A := by
  refine mm_met (g := g) (lv := [(0, .ref x0), (1, .int x1)]) (fun U h => h.2) (by decide +kernel) (Nat.le_of_ble_eq_true rfl) rfl ?_
  intro p e s m args below meth c ls C hr hnm hB hl
  obtain ⟨hR, hK⟩ := hB
  have hx := C.1
  have hb := C.2.1
  suffices hmain : ∀ (H : Heap) (locs : List Loc), mm_R g A M H → va_S A s.heap H locs → W p l e rm_X6_count s m args below meth c H locs 0 0 (MQ below (mm_Ti g A r M) args s 0 0 A) (F0 m 0 ls []) from hmain _ _ hR va_S.rf
  clear hR
  intro H locs hR hS
  unfold ff_X6_count at hf
  refine lv_iload_n hx hb dX6_count_0 rfl (lv_at hl 1 rfl) ?_
  refine lv_iconst (v := 0) hx hb dX6_count_1 (by decide) ?_
  refine lv_iconst (v := 5) hx hb dX6_count_2 (by decide) ?_
  obtain ⟨v1, ev1, hf⟩ := mm_bd hf
  refine mm_callSi (As := [.int x1, .int (0 : Int32), .int (5 : Int32)]) (rest := []) C hR hS hl.1 ss_X6_33 (jj_X6_isWithin l g A M x1 (0 : Int32) (5 : Int32) v1 ev1) ⟨rfl, rfl, (Nat.le_of_ble_eq_true rfl), (Nat.le_of_ble_eq_true rfl)⟩ rfl (Nat.le_of_ble_eq_true rfl) ⟨Nat.zero_le _, Nat.zero_le _⟩ rfl dX6_count_3 (fun H locs hR hS => ?_)
  refine lv_if_eq (tgt := 15) hx hb dX6_count_6 (by decide) (fun hc => ?_) (fun hc => ?_)
  · have hf := mm_if1 hc hf
    refine lv_iload_n hx hb dX6_count_15 rfl (lv_at hl 1 rfl) ?_
    refine lv_bipush (v := 6) hx hb dX6_count_16 (by decide) ?_
    refine lv_bipush (v := 16) hx hb dX6_count_18 (by decide) ?_
    obtain ⟨v2, ev2, hf⟩ := mm_bd hf
    refine mm_callSi (As := [.int x1, .int (6 : Int32), .int (16 : Int32)]) (rest := []) C hR hS hl.1 ss_X6_33 (jj_X6_isWithin l g A M x1 (6 : Int32) (16 : Int32) v2 ev2) ⟨rfl, rfl, (Nat.le_of_ble_eq_true rfl), (Nat.le_of_ble_eq_true rfl)⟩ rfl (Nat.le_of_ble_eq_true rfl) ⟨Nat.zero_le _, Nat.zero_le _⟩ rfl dX6_count_20 (fun H locs hR hS => ?_)
    refine lv_if_eq (tgt := 32) hx hb dX6_count_23 (by decide) (fun hc => ?_) (fun hc => ?_)
    · have hf := mm_if1 hc hf
      refine lv_iload_n hx hb dX6_count_32 rfl (lv_at hl 1 rfl) ?_
      refine lv_bipush (v := 20) hx hb dX6_count_33 (by decide) ?_
      refine lv_bipush (v := 26) hx hb dX6_count_35 (by decide) ?_
      obtain ⟨v3, ev3, hf⟩ := mm_bd hf
      refine mm_callSi (As := [.int x1, .int (20 : Int32), .int (26 : Int32)]) (rest := []) C hR hS hl.1 ss_X6_33 (jj_X6_isWithin l g A M x1 (20 : Int32) (26 : Int32) v3 ev3) ⟨rfl, rfl, (Nat.le_of_ble_eq_true rfl), (Nat.le_of_ble_eq_true rfl)⟩ rfl (Nat.le_of_ble_eq_true rfl) ⟨Nat.zero_le _, Nat.zero_le _⟩ rfl dX6_count_37 (fun H locs hR hS => ?_)
      refine lv_if_eq (tgt := 52) hx hb dX6_count_40 (by decide) (fun hc => ?_) (fun hc => ?_)
      · have hf := mm_if1 hc hf
        refine lv_iconst (v := -1) hx hb dX6_count_52 (by decide) ?_
        exact mm_ire C hR hS hr ((Option.some.inj hf)) rfl dX6_count_53
      · have hf := mm_if0 hc hf
        refine lv_aload_n hx hb dX6_count_43 rfl (lv_at hl 0 rfl) ?_
        refine lv_iload_n hx hb dX6_count_44 rfl (lv_at hl 1 rfl) ?_
        refine lv_bipush (v := 20) hx hb dX6_count_45 (by decide) ?_
        refine lv_isub hx hb dX6_count_47 ?_
        obtain ⟨u4, eu4, hf⟩ := mm_bd hf
        obtain ⟨v5, ev5, hf⟩ := mm_bd hf
        refine mm_callVi (As := [.int (x1 - (20 : Int32))]) (rest := []) C hR hS hl.1 vs_X6_110 eu4 (jj_X6_account l g A M x0 (x1 - (20 : Int32)) v5 ev5) ⟨rfl, rfl, (Nat.le_of_ble_eq_true rfl), (Nat.le_of_ble_eq_true rfl)⟩ rfl (Nat.le_of_ble_eq_true rfl) ⟨Nat.zero_le _, Nat.zero_le _⟩ rfl dX6_count_48 (fun H locs hR hS => ?_)
        exact mm_ire C hR hS hr ((Option.some.inj hf)) rfl dX6_count_51
    · have hf := mm_if0 hc hf
      refine lv_aload_n hx hb dX6_count_26 rfl (lv_at hl 0 rfl) ?_
      refine lv_iload_n hx hb dX6_count_27 rfl (lv_at hl 1 rfl) ?_
      obtain ⟨u6, eu6, hf⟩ := mm_bd hf
      obtain ⟨v7, ev7, hf⟩ := mm_bd hf
      refine mm_callVi (As := [.int x1]) (rest := []) C hR hS hl.1 vs_X6_107 eu6 (jj_X6_countOfWork l g A M x0 x1 v7 ev7) ⟨rfl, rfl, (Nat.le_of_ble_eq_true rfl), (Nat.le_of_ble_eq_true rfl)⟩ rfl (Nat.le_of_ble_eq_true rfl) ⟨Nat.zero_le _, Nat.zero_le _⟩ rfl dX6_count_28 (fun H locs hR hS => ?_)
      exact mm_ire C hR hS hr ((Option.some.inj hf)) rfl dX6_count_31
  · have hf := mm_if0 hc hf
    refine lv_aload_n hx hb dX6_count_9 rfl (lv_at hl 0 rfl) ?_
    refine lv_iload_n hx hb dX6_count_10 rfl (lv_at hl 1 rfl) ?_
    obtain ⟨u8, eu8, hf⟩ := mm_bd hf
    obtain ⟨v9, ev9, hf⟩ := mm_bd hf
    refine mm_callVi (As := [.int x1]) (rest := []) C hR hS hl.1 vs_X6_104 eu8 (jj_X6_countOfPlan l g A M x0 x1 v9 ev9) ⟨rfl, rfl, (Nat.le_of_ble_eq_true rfl), (Nat.le_of_ble_eq_true rfl)⟩ rfl (Nat.le_of_ble_eq_true rfl) ⟨Nat.zero_le _, Nat.zero_le _⟩ rfl dX6_count_11 (fun H locs hR hS => ?_)
    exact mm_ire C hR hS hr ((Option.some.inj hf)) rfl dX6_count_14
def ff_X6_shade (M : mm_M) (x0 : Nat) (x1 : Int32) : Option Int32 := if (0 : Int32) ≤ x1 then (Option.bind (mm_gR 6 M x0 0) fun v1 => Option.bind (mm_gR 2 M v1 0) fun v2 => Option.bind (mm_gI 1 M v2 2) fun v3 => if v3 ≤ x1 then (some (-4 : Int32)) else (Option.bind (mm_gR 6 M x0 0) fun v4 => Option.bind (mm_gR 2 M v4 0) fun v5 => Option.bind (mm_ck 1 M v5) fun u6 => Option.bind (ff_X1_patternShade M v5 x1) fun v7 => some v7)) else (some (-1 : Int32))
def rm_X6_shade : Room := { frames := 1, cells := 0, slots := 0, locals := 22 }
set_option maxHeartbeats 4000000 in
set_option maxRecDepth 100000 in
theorem jj_X6_shade (l : Launch) (g : mm_G) (A : Nat → Prop) (M : mm_M) (x0 : Nat) (x1 : Int32) (r : Int32) (hf : ff_X6_shade M x0 x1 = some r) : Met l yX6_shade (mm_ws yX6_shade cX6_shade 2 (Option.some Jvm.ClassFile.FieldType.int)) rm_X6_shade (va_Pc [.ref x0, .int x1] (mm_B g A M)) (mm_Ti g A r M) 0 0 A := by
  refine mm_met (g := g) (lv := [(0, .ref x0), (1, .int x1)]) (fun U h => h.2) (by decide +kernel) (Nat.le_of_ble_eq_true rfl) rfl ?_
  intro p e s m args below meth c ls C hr hnm hB hl
  obtain ⟨hR, hK⟩ := hB
  have hx := C.1
  have hb := C.2.1
  suffices hmain : ∀ (H : Heap) (locs : List Loc), mm_R g A M H → va_S A s.heap H locs → W p l e rm_X6_shade s m args below meth c H locs 0 0 (MQ below (mm_Ti g A r M) args s 0 0 A) (F0 m 0 ls []) from hmain _ _ hR va_S.rf
  clear hR
  intro H locs hR hS
  unfold ff_X6_shade at hf
  refine lv_iload_n hx hb dX6_shade_0 rfl (lv_at hl 1 rfl) ?_
  refine lv_if_ge (tgt := 6) hx hb dX6_shade_1 (by decide) (fun hc => ?_) (fun hc => ?_)
  · have hf := mm_if1 hc hf
    refine lv_iload_n hx hb dX6_shade_6 rfl (lv_at hl 1 rfl) ?_
    refine lv_aload_n hx hb dX6_shade_7 rfl (lv_at hl 0 rfl) ?_
    obtain ⟨v1, ev1, hf⟩ := mm_bd hf
    refine mm_getR C hR fs_X6_10 ev1 dX6_shade_8 ?_
    obtain ⟨v2, ev2, hf⟩ := mm_bd hf
    refine mm_getR C hR fs_X6_45 ev2 dX6_shade_11 ?_
    obtain ⟨v3, ev3, hf⟩ := mm_bd hf
    refine mm_getI C hR fs_X6_113 ev3 dX6_shade_14 ?_
    refine lv_icmp_ge (tgt := 34) hx hb dX6_shade_17 (by decide) (fun hc => ?_) (fun hc => ?_)
    · have hf := mm_if1 hc hf
      refine lv_bipush (v := -4) hx hb dX6_shade_34 (by decide) ?_
      exact mm_ire C hR hS hr ((Option.some.inj hf)) rfl dX6_shade_36
    · have hf := mm_if0 hc hf
      refine lv_aload_n hx hb dX6_shade_20 rfl (lv_at hl 0 rfl) ?_
      obtain ⟨v4, ev4, hf⟩ := mm_bd hf
      refine mm_getR C hR fs_X6_10 ev4 dX6_shade_21 ?_
      obtain ⟨v5, ev5, hf⟩ := mm_bd hf
      refine mm_getR C hR fs_X6_45 ev5 dX6_shade_24 ?_
      refine lv_iload_n hx hb dX6_shade_27 rfl (lv_at hl 1 rfl) ?_
      obtain ⟨u6, eu6, hf⟩ := mm_bd hf
      obtain ⟨v7, ev7, hf⟩ := mm_bd hf
      refine mm_callVi (As := [.int x1]) (rest := []) C hR hS hl.1 vs_X6_116 eu6 (jj_X1_patternShade l g A M v5 x1 v7 ev7) ⟨rfl, rfl, (Nat.le_of_ble_eq_true rfl), (Nat.le_of_ble_eq_true rfl)⟩ rfl (Nat.le_of_ble_eq_true rfl) ⟨Nat.zero_le _, Nat.zero_le _⟩ rfl dX6_shade_28 (fun H locs hR hS => ?_)
      refine lv_goto (tgt := 36) hx hb dX6_shade_31 (by decide) ?_
      exact mm_ire C hR hS hr ((Option.some.inj hf)) rfl dX6_shade_36
  · have hf := mm_if0 hc hf
    refine lv_iconst (v := -1) hx hb dX6_shade_4 (by decide) ?_
    exact mm_ire C hR hS hr ((Option.some.inj hf)) rfl dX6_shade_5
def ff_X6_undo (M : mm_M) (x0 : Nat) : Option ((Int32 × mm_M)) := Option.bind (mm_gR 6 M x0 2) fun v1 => Option.bind (mm_ck 0 M v1) fun u2 => Option.bind (ff_X0_states M v1) fun v3 => if v3 = (0 : Int32) then (some ((-2 : Int32), M)) else (Option.bind (mm_gR 6 M x0 2) fun v4 => Option.bind (mm_gR 6 M x0 0) fun v5 => Option.bind (mm_ck 0 M v4) fun u6 => Option.bind (ff_X0_restore M v4 v5) fun M7 => Option.bind (mm_gR 6 M7 x0 2) fun v8 => Option.bind (mm_ck 0 M7 v8) fun u9 => Option.bind (ff_X0_states M7 v8) fun v10 => some (v10, M7))
def rm_X6_undo : Room := { frames := 5, cells := 0, slots := 0, locals := 111 }
set_option maxHeartbeats 4000000 in
set_option maxRecDepth 100000 in
theorem jj_X6_undo (l : Launch) (g : mm_G) (A : Nat → Prop) (M : mm_M) (x0 : Nat) (r : Int32) (M2 : mm_M) (hf : ff_X6_undo M x0 = some (r, M2)) : Met l yX6_undo (mm_ws yX6_undo cX6_undo 1 (Option.some Jvm.ClassFile.FieldType.int)) rm_X6_undo (va_Pc [.ref x0] (mm_B g A M)) (mm_Ti g A r M2) 0 0 A := by
  refine mm_met (g := g) (lv := [(0, .ref x0)]) (fun U h => h.2) (by decide +kernel) (Nat.le_of_ble_eq_true rfl) rfl ?_
  intro p e s m args below meth c ls C hr hnm hB hl
  obtain ⟨hR, hK⟩ := hB
  have hx := C.1
  have hb := C.2.1
  suffices hmain : ∀ (H : Heap) (locs : List Loc), mm_R g A M H → va_S A s.heap H locs → W p l e rm_X6_undo s m args below meth c H locs 0 0 (MQ below (mm_Ti g A r M2) args s 0 0 A) (F0 m 0 ls []) from hmain _ _ hR va_S.rf
  clear hR
  intro H locs hR hS
  unfold ff_X6_undo at hf
  refine lv_aload_n hx hb dX6_undo_0 rfl (lv_at hl 0 rfl) ?_
  obtain ⟨v1, ev1, hf⟩ := mm_bd hf
  refine mm_getR C hR fs_X6_22 ev1 dX6_undo_1 ?_
  obtain ⟨u2, eu2, hf⟩ := mm_bd hf
  obtain ⟨v3, ev3, hf⟩ := mm_bd hf
  refine mm_callVi (As := []) (rest := []) C hR hS hl.1 vs_X6_119 eu2 (jj_X0_states l g A M v1 v3 ev3) ⟨rfl, rfl, (Nat.le_of_ble_eq_true rfl), (Nat.le_of_ble_eq_true rfl)⟩ rfl (Nat.le_of_ble_eq_true rfl) ⟨Nat.zero_le _, Nat.zero_le _⟩ rfl dX6_undo_4 (fun H locs hR hS => ?_)
  refine lv_if_ne (tgt := 13) hx hb dX6_undo_7 (by decide) (fun hc => ?_) (fun hc => ?_)
  · have hf := mm_if0 hc hf
    refine lv_aload_n hx hb dX6_undo_13 rfl (lv_at hl 0 rfl) ?_
    obtain ⟨v4, ev4, hf⟩ := mm_bd hf
    refine mm_getR C hR fs_X6_22 ev4 dX6_undo_14 ?_
    refine lv_aload_n hx hb dX6_undo_17 rfl (lv_at hl 0 rfl) ?_
    obtain ⟨v5, ev5, hf⟩ := mm_bd hf
    refine mm_getR C hR fs_X6_10 ev5 dX6_undo_18 ?_
    obtain ⟨u6, eu6, hf⟩ := mm_bd hf
    obtain ⟨M7, eM7, hf⟩ := mm_bd hf
    refine mm_callVv (As := [.ref v5]) (rest := []) C hR hS hl.1 vs_X6_122 eu6 (jj_X0_restore l g A M v4 v5 M7 eM7) ⟨rfl, rfl, (Nat.le_of_ble_eq_true rfl), (Nat.le_of_ble_eq_true rfl)⟩ rfl (Nat.le_of_ble_eq_true rfl) ⟨Nat.zero_le _, Nat.zero_le _⟩ rfl dX6_undo_21 (fun H locs hR hS => ?_)
    refine lv_aload_n hx hb dX6_undo_24 rfl (lv_at hl 0 rfl) ?_
    obtain ⟨v8, ev8, hf⟩ := mm_bd hf
    refine mm_getR C hR fs_X6_22 ev8 dX6_undo_25 ?_
    obtain ⟨u9, eu9, hf⟩ := mm_bd hf
    obtain ⟨v10, ev10, hf⟩ := mm_bd hf
    refine mm_callVi (As := []) (rest := []) C hR hS hl.1 vs_X6_119 eu9 (jj_X0_states l g A M7 v8 v10 ev10) ⟨rfl, rfl, (Nat.le_of_ble_eq_true rfl), (Nat.le_of_ble_eq_true rfl)⟩ rfl (Nat.le_of_ble_eq_true rfl) ⟨Nat.zero_le _, Nat.zero_le _⟩ rfl dX6_undo_28 (fun H locs hR hS => ?_)
    exact mm_ire C hR hS hr ((mm_pe hf).1) (mm_pe hf).2 dX6_undo_31
  · have hf := mm_if1 hc hf
    refine lv_bipush (v := -2) hx hb dX6_undo_10 (by decide) ?_
    exact mm_ire C hR hS hr ((mm_pe hf).1) (mm_pe hf).2 dX6_undo_12
def ff_X6_strip (M : mm_M) (x0 : Nat) (x1 : Int32) (x2 : Int32) : Option ((Int32 × mm_M)) := Option.bind (ff_X6_isWithin M x1 (20 : Int32) (1000 : Int32)) fun v1 => if v1 = (0 : Int32) then (some ((-1 : Int32), M)) else (Option.bind (ff_X6_isShade M x2) fun v2 => if v2 = (0 : Int32) then (some ((-1 : Int32), M)) else (Option.bind (mm_gR 6 M x0 0) fun v3 => Option.bind (mm_gR 2 M v3 1) fun v4 => Option.bind (mm_gI 3 M v4 2) fun v5 => if v5 < (10 : Int32) then (Option.bind (mm_gR 6 M x0 2) fun v6 => Option.bind (mm_gR 6 M x0 0) fun v7 => Option.bind (mm_ck 0 M v6) fun u8 => Option.bind (ff_X0_keep M v6 v7) fun M9 => Option.bind (mm_gR 6 M9 x0 0) fun v10 => Option.bind (mm_gR 2 M9 v10 1) fun v11 => Option.bind (mm_ck 3 M9 v11) fun u12 => Option.bind (ff_X3_addStrip M9 v11 x1 x2) (mm_u2 fun v13 M14 => some (v13, M14))) else (some ((-3 : Int32), M))))
def rm_X6_strip : Room := { frames := 5, cells := 0, slots := 0, locals := 111 }
set_option maxHeartbeats 4000000 in
set_option maxRecDepth 100000 in
theorem jj_X6_strip (l : Launch) (g : mm_G) (A : Nat → Prop) (M : mm_M) (x0 : Nat) (x1 : Int32) (x2 : Int32) (r : Int32) (M2 : mm_M) (hf : ff_X6_strip M x0 x1 x2 = some (r, M2)) : Met l yX6_strip (mm_ws yX6_strip cX6_strip 3 (Option.some Jvm.ClassFile.FieldType.int)) rm_X6_strip (va_Pc [.ref x0, .int x1, .int x2] (mm_B g A M)) (mm_Ti g A r M2) 0 0 A := by
  refine mm_met (g := g) (lv := [(0, .ref x0), (1, .int x1), (2, .int x2)]) (fun U h => h.2) (by decide +kernel) (Nat.le_of_ble_eq_true rfl) rfl ?_
  intro p e s m args below meth c ls C hr hnm hB hl
  obtain ⟨hR, hK⟩ := hB
  have hx := C.1
  have hb := C.2.1
  suffices hmain : ∀ (H : Heap) (locs : List Loc), mm_R g A M H → va_S A s.heap H locs → W p l e rm_X6_strip s m args below meth c H locs 0 0 (MQ below (mm_Ti g A r M2) args s 0 0 A) (F0 m 0 ls []) from hmain _ _ hR va_S.rf
  clear hR
  intro H locs hR hS
  unfold ff_X6_strip at hf
  refine lv_iload_n hx hb dX6_strip_0 rfl (lv_at hl 1 rfl) ?_
  refine lv_bipush (v := 20) hx hb dX6_strip_1 (by decide) ?_
  refine lv_sipush (v := 1000) hx hb dX6_strip_3 (by decide) ?_
  obtain ⟨v1, ev1, hf⟩ := mm_bd hf
  refine mm_callSi (As := [.int x1, .int (20 : Int32), .int (1000 : Int32)]) (rest := []) C hR hS hl.1 ss_X6_33 (jj_X6_isWithin l g A M x1 (20 : Int32) (1000 : Int32) v1 ev1) ⟨rfl, rfl, (Nat.le_of_ble_eq_true rfl), (Nat.le_of_ble_eq_true rfl)⟩ rfl (Nat.le_of_ble_eq_true rfl) ⟨Nat.zero_le _, Nat.zero_le _⟩ rfl dX6_strip_6 (fun H locs hR hS => ?_)
  refine lv_if_eq (tgt := 19) hx hb dX6_strip_9 (by decide) (fun hc => ?_) (fun hc => ?_)
  · have hf := mm_if1 hc hf
    refine lv_iconst (v := -1) hx hb dX6_strip_19 (by decide) ?_
    exact mm_ire C hR hS hr ((mm_pe hf).1) (mm_pe hf).2 dX6_strip_20
  · have hf := mm_if0 hc hf
    refine lv_iload_n hx hb dX6_strip_12 rfl (lv_at hl 2 rfl) ?_
    obtain ⟨v2, ev2, hf⟩ := mm_bd hf
    refine mm_callSi (As := [.int x2]) (rest := []) C hR hS hl.1 ss_X6_77 (jj_X6_isShade l g A M x2 v2 ev2) ⟨rfl, rfl, (Nat.le_of_ble_eq_true rfl), (Nat.le_of_ble_eq_true rfl)⟩ rfl (Nat.le_of_ble_eq_true rfl) ⟨Nat.zero_le _, Nat.zero_le _⟩ rfl dX6_strip_13 (fun H locs hR hS => ?_)
    refine lv_if_ne (tgt := 21) hx hb dX6_strip_16 (by decide) (fun hc => ?_) (fun hc => ?_)
    · have hf := mm_if0 hc hf
      refine lv_aload_n hx hb dX6_strip_21 rfl (lv_at hl 0 rfl) ?_
      obtain ⟨v3, ev3, hf⟩ := mm_bd hf
      refine mm_getR C hR fs_X6_10 ev3 dX6_strip_22 ?_
      obtain ⟨v4, ev4, hf⟩ := mm_bd hf
      refine mm_getR C hR fs_X6_125 ev4 dX6_strip_25 ?_
      obtain ⟨v5, ev5, hf⟩ := mm_bd hf
      refine mm_getI C hR fs_X6_129 ev5 dX6_strip_28 ?_
      refine lv_bipush (v := 10) hx hb dX6_strip_31 (by decide) ?_
      refine lv_icmp_lt (tgt := 39) hx hb dX6_strip_33 (by decide) (fun hc => ?_) (fun hc => ?_)
      · have hf := mm_if1 hc hf
        refine lv_aload_n hx hb dX6_strip_39 rfl (lv_at hl 0 rfl) ?_
        obtain ⟨v6, ev6, hf⟩ := mm_bd hf
        refine mm_getR C hR fs_X6_22 ev6 dX6_strip_40 ?_
        refine lv_aload_n hx hb dX6_strip_43 rfl (lv_at hl 0 rfl) ?_
        obtain ⟨v7, ev7, hf⟩ := mm_bd hf
        refine mm_getR C hR fs_X6_10 ev7 dX6_strip_44 ?_
        obtain ⟨u8, eu8, hf⟩ := mm_bd hf
        obtain ⟨M9, eM9, hf⟩ := mm_bd hf
        refine mm_callVv (As := [.ref v7]) (rest := []) C hR hS hl.1 vs_X6_41 eu8 (jj_X0_keep l g A M v6 v7 M9 eM9) ⟨rfl, rfl, (Nat.le_of_ble_eq_true rfl), (Nat.le_of_ble_eq_true rfl)⟩ rfl (Nat.le_of_ble_eq_true rfl) ⟨Nat.zero_le _, Nat.zero_le _⟩ rfl dX6_strip_47 (fun H locs hR hS => ?_)
        refine lv_aload_n hx hb dX6_strip_50 rfl (lv_at hl 0 rfl) ?_
        obtain ⟨v10, ev10, hf⟩ := mm_bd hf
        refine mm_getR C hR fs_X6_10 ev10 dX6_strip_51 ?_
        obtain ⟨v11, ev11, hf⟩ := mm_bd hf
        refine mm_getR C hR fs_X6_125 ev11 dX6_strip_54 ?_
        refine lv_iload_n hx hb dX6_strip_57 rfl (lv_at hl 1 rfl) ?_
        refine lv_iload_n hx hb dX6_strip_58 rfl (lv_at hl 2 rfl) ?_
        obtain ⟨u12, eu12, hf⟩ := mm_bd hf
        obtain ⟨⟨v13, M14⟩, ev13, hf⟩ := mm_bd hf
        have hf := mm_u2e hf
        refine mm_callVi (As := [.int x1, .int x2]) (rest := []) C hR hS hl.1 vs_X6_134 eu12 (jj_X3_addStrip l g A M9 v11 x1 x2 v13 M14 ev13) ⟨rfl, rfl, (Nat.le_of_ble_eq_true rfl), (Nat.le_of_ble_eq_true rfl)⟩ rfl (Nat.le_of_ble_eq_true rfl) ⟨Nat.zero_le _, Nat.zero_le _⟩ rfl dX6_strip_59 (fun H locs hR hS => ?_)
        exact mm_ire C hR hS hr ((mm_pe hf).1) (mm_pe hf).2 dX6_strip_62
      · have hf := mm_if0 hc hf
        refine lv_bipush (v := -3) hx hb dX6_strip_36 (by decide) ?_
        exact mm_ire C hR hS hr ((mm_pe hf).1) (mm_pe hf).2 dX6_strip_38
    · have hf := mm_if1 hc hf
      refine lv_iconst (v := -1) hx hb dX6_strip_19 (by decide) ?_
      exact mm_ire C hR hS hr ((mm_pe hf).1) (mm_pe hf).2 dX6_strip_20
def ff_X6_flaw (M : mm_M) (x0 : Nat) (x1 : Int32) (x2 : Int32) : Option ((Int32 × mm_M)) := Option.bind (mm_gR 6 M x0 0) fun v1 => Option.bind (mm_gR 2 M v1 1) fun v2 => Option.bind (mm_ck 3 M v2) fun u3 => Option.bind (ff_X3_stripOrNull M v2 x1) fun o4 => mm_oc o4 (some ((-1 : Int32), M)) (fun q5 => Option.bind (ff_X6_isWithin M x2 (0 : Int32) (999 : Int32)) fun v6 => if v6 = (0 : Int32) then (some ((-1 : Int32), M)) else (Option.bind (mm_gI 4 M q5 4) fun v7 => Option.bind (mm_gI 4 M q5 2) fun v8 => Option.bind (ff_X6_isWithin M x2 v7 (v8 - (1 : Int32))) fun v9 => if v9 = (0 : Int32) then (some ((-2 : Int32), M)) else (Option.bind (mm_ck 4 M q5) fun u10 => Option.bind (ff_X4_hasFlawIn M q5 x2 (x2 + (1 : Int32))) fun v11 => if v11 = (0 : Int32) then (Option.bind (mm_gI 4 M q5 1) fun v12 => if v12 < (6 : Int32) then (Option.bind (mm_gR 6 M x0 2) fun v13 => Option.bind (mm_gR 6 M x0 0) fun v14 => Option.bind (mm_ck 0 M v13) fun u15 => Option.bind (ff_X0_keep M v13 v14) fun M16 => Option.bind (mm_ck 4 M16 q5) fun u17 => Option.bind (ff_X4_addFlaw M16 q5 x2) fun M18 => Option.bind (mm_gI 4 M18 q5 1) fun v19 => some (v19, M18)) else (some ((-3 : Int32), M))) else (some ((-2 : Int32), M)))))
def rm_X6_flaw : Room := { frames := 5, cells := 0, slots := 0, locals := 111 }
set_option maxHeartbeats 4000000 in
set_option maxRecDepth 100000 in
theorem jj_X6_flaw (l : Launch) (g : mm_G) (A : Nat → Prop) (M : mm_M) (x0 : Nat) (x1 : Int32) (x2 : Int32) (r : Int32) (M2 : mm_M) (hf : ff_X6_flaw M x0 x1 x2 = some (r, M2)) : Met l yX6_flaw (mm_ws yX6_flaw cX6_flaw 4 (Option.some Jvm.ClassFile.FieldType.int)) rm_X6_flaw (va_Pc [.ref x0, .int x1, .int x2] (mm_B g A M)) (mm_Ti g A r M2) 0 0 A := by
  refine mm_met (g := g) (lv := [(0, .ref x0), (1, .int x1), (2, .int x2)]) (fun U h => h.2) (by decide +kernel) (Nat.le_of_ble_eq_true rfl) rfl ?_
  intro p e s m args below meth c ls C hr hnm hB hl
  obtain ⟨hR, hK⟩ := hB
  have hx := C.1
  have hb := C.2.1
  suffices hmain : ∀ (H : Heap) (locs : List Loc), mm_R g A M H → va_S A s.heap H locs → W p l e rm_X6_flaw s m args below meth c H locs 0 0 (MQ below (mm_Ti g A r M2) args s 0 0 A) (F0 m 0 ls []) from hmain _ _ hR va_S.rf
  clear hR
  intro H locs hR hS
  unfold ff_X6_flaw at hf
  refine lv_aload_n hx hb dX6_flaw_0 rfl (lv_at hl 0 rfl) ?_
  obtain ⟨v1, ev1, hf⟩ := mm_bd hf
  refine mm_getR C hR fs_X6_10 ev1 dX6_flaw_1 ?_
  obtain ⟨v2, ev2, hf⟩ := mm_bd hf
  refine mm_getR C hR fs_X6_125 ev2 dX6_flaw_4 ?_
  refine lv_iload_n hx hb dX6_flaw_7 rfl (lv_at hl 1 rfl) ?_
  obtain ⟨u3, eu3, hf⟩ := mm_bd hf
  obtain ⟨o4, eo4, hf⟩ := mm_bd hf
  refine mm_callVr (As := [.int x1]) (rest := []) C hR hS hl.1 vs_X6_137 eu3 (jj_X3_stripOrNull l g A M v2 x1 o4 eo4) ⟨rfl, rfl, (Nat.le_of_ble_eq_true rfl), (Nat.le_of_ble_eq_true rfl)⟩ rfl (Nat.le_of_ble_eq_true rfl) ⟨Nat.zero_le _, Nat.zero_le _⟩ rfl dX6_flaw_8 (fun H locs hR hS => ?_)
  cases o4 with
  | none =>
    have hf := mm_ocn hf
    refine lv_astore_nN (lv' := [(3, .null), (0, .ref x0), (1, .int x1), (2, .int x2)]) hx hb dX6_flaw_11 rfl hl (by decide) rfl (fun ls hl => ?_)
    refine lv_aload_nN hx hb dX6_flaw_12 rfl (lv_at hl 0 rfl) ?_
    refine lv_ifnullN (tgt := 27) hx hb dX6_flaw_13 (by decide) ?_
    refine lv_iconst (v := -1) hx hb dX6_flaw_27 (by decide) ?_
    exact mm_ire C hR hS hr ((mm_pe hf).1) (mm_pe hf).2 dX6_flaw_28
  | some q5 =>
    have hf := mm_ocs hf
    refine lv_astore_n (lv' := [(3, .ref q5), (0, .ref x0), (1, .int x1), (2, .int x2)]) hx hb dX6_flaw_11 rfl hl (by decide) rfl (fun ls hl => ?_)
    refine lv_aload_n hx hb dX6_flaw_12 rfl (lv_at hl 0 rfl) ?_
    refine lv_ifnull hx hb dX6_flaw_13 ?_
    refine lv_iload_n hx hb dX6_flaw_16 rfl (lv_at hl 3 rfl) ?_
    refine lv_iconst (v := 0) hx hb dX6_flaw_17 (by decide) ?_
    refine lv_sipush (v := 999) hx hb dX6_flaw_18 (by decide) ?_
    obtain ⟨v6, ev6, hf⟩ := mm_bd hf
    refine mm_callSi (As := [.int x2, .int (0 : Int32), .int (999 : Int32)]) (rest := []) C hR hS hl.1 ss_X6_33 (jj_X6_isWithin l g A M x2 (0 : Int32) (999 : Int32) v6 ev6) ⟨rfl, rfl, (Nat.le_of_ble_eq_true rfl), (Nat.le_of_ble_eq_true rfl)⟩ rfl (Nat.le_of_ble_eq_true rfl) ⟨Nat.zero_le _, Nat.zero_le _⟩ rfl dX6_flaw_21 (fun H locs hR hS => ?_)
    refine lv_if_ne (tgt := 29) hx hb dX6_flaw_24 (by decide) (fun hc => ?_) (fun hc => ?_)
    · have hf := mm_if0 hc hf
      refine lv_iload_n hx hb dX6_flaw_29 rfl (lv_at hl 3 rfl) ?_
      refine lv_aload_n hx hb dX6_flaw_30 rfl (lv_at hl 0 rfl) ?_
      obtain ⟨v7, ev7, hf⟩ := mm_bd hf
      refine mm_getI C hR fs_X6_141 ev7 dX6_flaw_31 ?_
      refine lv_aload_n hx hb dX6_flaw_34 rfl (lv_at hl 0 rfl) ?_
      obtain ⟨v8, ev8, hf⟩ := mm_bd hf
      refine mm_getI C hR fs_X6_146 ev8 dX6_flaw_35 ?_
      refine lv_iconst (v := 1) hx hb dX6_flaw_38 (by decide) ?_
      refine lv_isub hx hb dX6_flaw_39 ?_
      obtain ⟨v9, ev9, hf⟩ := mm_bd hf
      refine mm_callSi (As := [.int x2, .int v7, .int (v8 - (1 : Int32))]) (rest := []) C hR hS hl.1 ss_X6_33 (jj_X6_isWithin l g A M x2 v7 (v8 - (1 : Int32)) v9 ev9) ⟨rfl, rfl, (Nat.le_of_ble_eq_true rfl), (Nat.le_of_ble_eq_true rfl)⟩ rfl (Nat.le_of_ble_eq_true rfl) ⟨Nat.zero_le _, Nat.zero_le _⟩ rfl dX6_flaw_40 (fun H locs hR hS => ?_)
      refine lv_if_eq (tgt := 57) hx hb dX6_flaw_43 (by decide) (fun hc => ?_) (fun hc => ?_)
      · have hf := mm_if1 hc hf
        refine lv_bipush (v := -2) hx hb dX6_flaw_57 (by decide) ?_
        exact mm_ire C hR hS hr ((mm_pe hf).1) (mm_pe hf).2 dX6_flaw_59
      · have hf := mm_if0 hc hf
        refine lv_aload_n hx hb dX6_flaw_46 rfl (lv_at hl 0 rfl) ?_
        refine lv_iload_n hx hb dX6_flaw_47 rfl (lv_at hl 3 rfl) ?_
        refine lv_iload_n hx hb dX6_flaw_48 rfl (lv_at hl 3 rfl) ?_
        refine lv_iconst (v := 1) hx hb dX6_flaw_49 (by decide) ?_
        refine lv_iadd hx hb dX6_flaw_50 ?_
        obtain ⟨u10, eu10, hf⟩ := mm_bd hf
        obtain ⟨v11, ev11, hf⟩ := mm_bd hf
        refine mm_callVi (As := [.int x2, .int (x2 + (1 : Int32))]) (rest := []) C hR hS hl.1 vs_X6_149 eu10 (jj_X4_hasFlawIn l g A M q5 x2 (x2 + (1 : Int32)) v11 ev11) ⟨rfl, rfl, (Nat.le_of_ble_eq_true rfl), (Nat.le_of_ble_eq_true rfl)⟩ rfl (Nat.le_of_ble_eq_true rfl) ⟨Nat.zero_le _, Nat.zero_le _⟩ rfl dX6_flaw_51 (fun H locs hR hS => ?_)
        refine lv_if_eq (tgt := 60) hx hb dX6_flaw_54 (by decide) (fun hc => ?_) (fun hc => ?_)
        · have hf := mm_if1 hc hf
          refine lv_aload_n hx hb dX6_flaw_60 rfl (lv_at hl 0 rfl) ?_
          obtain ⟨v12, ev12, hf⟩ := mm_bd hf
          refine mm_getI C hR fs_X6_152 ev12 dX6_flaw_61 ?_
          refine lv_bipush (v := 6) hx hb dX6_flaw_64 (by decide) ?_
          refine lv_icmp_lt (tgt := 72) hx hb dX6_flaw_66 (by decide) (fun hc => ?_) (fun hc => ?_)
          · have hf := mm_if1 hc hf
            refine lv_aload_n hx hb dX6_flaw_72 rfl (lv_at hl 1 rfl) ?_
            obtain ⟨v13, ev13, hf⟩ := mm_bd hf
            refine mm_getR C hR fs_X6_22 ev13 dX6_flaw_73 ?_
            refine lv_aload_n hx hb dX6_flaw_76 rfl (lv_at hl 1 rfl) ?_
            obtain ⟨v14, ev14, hf⟩ := mm_bd hf
            refine mm_getR C hR fs_X6_10 ev14 dX6_flaw_77 ?_
            obtain ⟨u15, eu15, hf⟩ := mm_bd hf
            obtain ⟨M16, eM16, hf⟩ := mm_bd hf
            refine mm_callVv (As := [.ref v14]) (rest := []) C hR hS hl.1 vs_X6_41 eu15 (jj_X0_keep l g A M v13 v14 M16 eM16) ⟨rfl, rfl, (Nat.le_of_ble_eq_true rfl), (Nat.le_of_ble_eq_true rfl)⟩ rfl (Nat.le_of_ble_eq_true rfl) ⟨Nat.zero_le _, Nat.zero_le _⟩ rfl dX6_flaw_80 (fun H locs hR hS => ?_)
            refine lv_aload_n hx hb dX6_flaw_83 rfl (lv_at hl 0 rfl) ?_
            refine lv_iload_n hx hb dX6_flaw_84 rfl (lv_at hl 3 rfl) ?_
            obtain ⟨u17, eu17, hf⟩ := mm_bd hf
            obtain ⟨M18, eM18, hf⟩ := mm_bd hf
            refine mm_callVv (As := [.int x2]) (rest := []) C hR hS hl.1 vs_X6_155 eu17 (jj_X4_addFlaw l g A M16 q5 x2 M18 eM18) ⟨rfl, rfl, (Nat.le_of_ble_eq_true rfl), (Nat.le_of_ble_eq_true rfl)⟩ rfl (Nat.le_of_ble_eq_true rfl) ⟨Nat.zero_le _, Nat.zero_le _⟩ rfl dX6_flaw_85 (fun H locs hR hS => ?_)
            refine lv_aload_n hx hb dX6_flaw_88 rfl (lv_at hl 0 rfl) ?_
            obtain ⟨v19, ev19, hf⟩ := mm_bd hf
            refine mm_getI C hR fs_X6_152 ev19 dX6_flaw_89 ?_
            exact mm_ire C hR hS hr ((mm_pe hf).1) (mm_pe hf).2 dX6_flaw_92
          · have hf := mm_if0 hc hf
            refine lv_bipush (v := -3) hx hb dX6_flaw_69 (by decide) ?_
            exact mm_ire C hR hS hr ((mm_pe hf).1) (mm_pe hf).2 dX6_flaw_71
        · have hf := mm_if0 hc hf
          refine lv_bipush (v := -2) hx hb dX6_flaw_57 (by decide) ?_
          exact mm_ire C hR hS hr ((mm_pe hf).1) (mm_pe hf).2 dX6_flaw_59
    · have hf := mm_if1 hc hf
      refine lv_iconst (v := -1) hx hb dX6_flaw_27 (by decide) ?_
      exact mm_ire C hR hS hr ((mm_pe hf).1) (mm_pe hf).2 dX6_flaw_28
def ff_X6_cut (M : mm_M) (x0 : Nat) (x1 : Int32) : Option ((Int32 × mm_M)) := Option.bind (mm_gR 6 M x0 0) fun v1 => Option.bind (mm_gR 2 M v1 1) fun v2 => Option.bind (mm_ck 3 M v2) fun u3 => Option.bind (ff_X3_stripOrNull M v2 x1) fun o4 => mm_oc o4 (some ((-1 : Int32), M)) (fun q5 => Option.bind (mm_ck 4 M q5) fun u6 => Option.bind (ff_X4_left M q5) fun v7 => Option.bind (mm_gR 6 M x0 0) fun v8 => Option.bind (mm_gR 2 M v8 1) fun v9 => Option.bind (mm_gI 3 M v9 3) fun v10 => if v10 ≤ v7 then (Option.bind (mm_gR 6 M x0 2) fun v11 => Option.bind (mm_gR 6 M x0 0) fun v12 => Option.bind (mm_ck 0 M v11) fun u13 => Option.bind (ff_X0_keep M v11 v12) fun M14 => Option.bind (mm_gR 6 M14 x0 0) fun v15 => Option.bind (mm_gR 2 M14 v15 1) fun v16 => Option.bind (mm_ck 3 M14 v16) fun u17 => Option.bind (ff_X3_cutFrom M14 v16 q5) (mm_u2 fun v18 M19 => if v18 = (0 : Int32) then (some ((0 : Int32), M19)) else (some ((1 : Int32), M19)))) else (some ((-2 : Int32), M)))
def rm_X6_cut : Room := { frames := 5, cells := 0, slots := 0, locals := 111 }
set_option maxHeartbeats 4000000 in
set_option maxRecDepth 100000 in
theorem jj_X6_cut (l : Launch) (g : mm_G) (A : Nat → Prop) (M : mm_M) (x0 : Nat) (x1 : Int32) (r : Int32) (M2 : mm_M) (hf : ff_X6_cut M x0 x1 = some (r, M2)) : Met l yX6_cut (mm_ws yX6_cut cX6_cut 3 (Option.some Jvm.ClassFile.FieldType.int)) rm_X6_cut (va_Pc [.ref x0, .int x1] (mm_B g A M)) (mm_Ti g A r M2) 0 0 A := by
  refine mm_met (g := g) (lv := [(0, .ref x0), (1, .int x1)]) (fun U h => h.2) (by decide +kernel) (Nat.le_of_ble_eq_true rfl) rfl ?_
  intro p e s m args below meth c ls C hr hnm hB hl
  obtain ⟨hR, hK⟩ := hB
  have hx := C.1
  have hb := C.2.1
  suffices hmain : ∀ (H : Heap) (locs : List Loc), mm_R g A M H → va_S A s.heap H locs → W p l e rm_X6_cut s m args below meth c H locs 0 0 (MQ below (mm_Ti g A r M2) args s 0 0 A) (F0 m 0 ls []) from hmain _ _ hR va_S.rf
  clear hR
  intro H locs hR hS
  unfold ff_X6_cut at hf
  refine lv_aload_n hx hb dX6_cut_0 rfl (lv_at hl 0 rfl) ?_
  obtain ⟨v1, ev1, hf⟩ := mm_bd hf
  refine mm_getR C hR fs_X6_10 ev1 dX6_cut_1 ?_
  obtain ⟨v2, ev2, hf⟩ := mm_bd hf
  refine mm_getR C hR fs_X6_125 ev2 dX6_cut_4 ?_
  refine lv_iload_n hx hb dX6_cut_7 rfl (lv_at hl 1 rfl) ?_
  obtain ⟨u3, eu3, hf⟩ := mm_bd hf
  obtain ⟨o4, eo4, hf⟩ := mm_bd hf
  refine mm_callVr (As := [.int x1]) (rest := []) C hR hS hl.1 vs_X6_137 eu3 (jj_X3_stripOrNull l g A M v2 x1 o4 eo4) ⟨rfl, rfl, (Nat.le_of_ble_eq_true rfl), (Nat.le_of_ble_eq_true rfl)⟩ rfl (Nat.le_of_ble_eq_true rfl) ⟨Nat.zero_le _, Nat.zero_le _⟩ rfl dX6_cut_8 (fun H locs hR hS => ?_)
  cases o4 with
  | none =>
    have hf := mm_ocn hf
    refine lv_astore_nN (lv' := [(2, .null), (0, .ref x0), (1, .int x1)]) hx hb dX6_cut_11 rfl hl (by decide) rfl (fun ls hl => ?_)
    refine lv_aload_nN hx hb dX6_cut_12 rfl (lv_at hl 0 rfl) ?_
    refine lv_ifnonnullN hx hb dX6_cut_13 ?_
    refine lv_iconst (v := -1) hx hb dX6_cut_16 (by decide) ?_
    exact mm_ire C hR hS hr ((mm_pe hf).1) (mm_pe hf).2 dX6_cut_17
  | some q5 =>
    have hf := mm_ocs hf
    refine lv_astore_n (lv' := [(2, .ref q5), (0, .ref x0), (1, .int x1)]) hx hb dX6_cut_11 rfl hl (by decide) rfl (fun ls hl => ?_)
    refine lv_aload_n hx hb dX6_cut_12 rfl (lv_at hl 0 rfl) ?_
    refine lv_ifnonnull (tgt := 18) hx hb dX6_cut_13 (by decide) ?_
    refine lv_aload_n hx hb dX6_cut_18 rfl (lv_at hl 0 rfl) ?_
    obtain ⟨u6, eu6, hf⟩ := mm_bd hf
    obtain ⟨v7, ev7, hf⟩ := mm_bd hf
    refine mm_callVi (As := []) (rest := []) C hR hS hl.1 vs_X6_159 eu6 (jj_X4_left l g A M q5 v7 ev7) ⟨rfl, rfl, (Nat.le_of_ble_eq_true rfl), (Nat.le_of_ble_eq_true rfl)⟩ rfl (Nat.le_of_ble_eq_true rfl) ⟨Nat.zero_le _, Nat.zero_le _⟩ rfl dX6_cut_19 (fun H locs hR hS => ?_)
    refine lv_aload_n hx hb dX6_cut_22 rfl (lv_at hl 1 rfl) ?_
    obtain ⟨v8, ev8, hf⟩ := mm_bd hf
    refine mm_getR C hR fs_X6_10 ev8 dX6_cut_23 ?_
    obtain ⟨v9, ev9, hf⟩ := mm_bd hf
    refine mm_getR C hR fs_X6_125 ev9 dX6_cut_26 ?_
    obtain ⟨v10, ev10, hf⟩ := mm_bd hf
    refine mm_getI C hR fs_X6_162 ev10 dX6_cut_29 ?_
    refine lv_icmp_ge (tgt := 38) hx hb dX6_cut_32 (by decide) (fun hc => ?_) (fun hc => ?_)
    · have hf := mm_if1 hc hf
      refine lv_aload_n hx hb dX6_cut_38 rfl (lv_at hl 1 rfl) ?_
      obtain ⟨v11, ev11, hf⟩ := mm_bd hf
      refine mm_getR C hR fs_X6_22 ev11 dX6_cut_39 ?_
      refine lv_aload_n hx hb dX6_cut_42 rfl (lv_at hl 1 rfl) ?_
      obtain ⟨v12, ev12, hf⟩ := mm_bd hf
      refine mm_getR C hR fs_X6_10 ev12 dX6_cut_43 ?_
      obtain ⟨u13, eu13, hf⟩ := mm_bd hf
      obtain ⟨M14, eM14, hf⟩ := mm_bd hf
      refine mm_callVv (As := [.ref v12]) (rest := []) C hR hS hl.1 vs_X6_41 eu13 (jj_X0_keep l g A M v11 v12 M14 eM14) ⟨rfl, rfl, (Nat.le_of_ble_eq_true rfl), (Nat.le_of_ble_eq_true rfl)⟩ rfl (Nat.le_of_ble_eq_true rfl) ⟨Nat.zero_le _, Nat.zero_le _⟩ rfl dX6_cut_46 (fun H locs hR hS => ?_)
      refine lv_aload_n hx hb dX6_cut_49 rfl (lv_at hl 1 rfl) ?_
      obtain ⟨v15, ev15, hf⟩ := mm_bd hf
      refine mm_getR C hR fs_X6_10 ev15 dX6_cut_50 ?_
      obtain ⟨v16, ev16, hf⟩ := mm_bd hf
      refine mm_getR C hR fs_X6_125 ev16 dX6_cut_53 ?_
      refine lv_aload_n hx hb dX6_cut_56 rfl (lv_at hl 0 rfl) ?_
      obtain ⟨u17, eu17, hf⟩ := mm_bd hf
      obtain ⟨⟨v18, M19⟩, ev18, hf⟩ := mm_bd hf
      have hf := mm_u2e hf
      refine mm_callVi (As := [.ref q5]) (rest := []) C hR hS hl.1 vs_X6_165 eu17 (jj_X3_cutFrom l g A M14 v16 q5 v18 M19 ev18) ⟨rfl, rfl, (Nat.le_of_ble_eq_true rfl), (Nat.le_of_ble_eq_true rfl)⟩ rfl (Nat.le_of_ble_eq_true rfl) ⟨Nat.zero_le _, Nat.zero_le _⟩ rfl dX6_cut_57 (fun H locs hR hS => ?_)
      refine lv_if_eq (tgt := 67) hx hb dX6_cut_60 (by decide) (fun hc => ?_) (fun hc => ?_)
      · have hf := mm_if1 hc hf
        refine lv_iconst (v := 0) hx hb dX6_cut_67 (by decide) ?_
        exact mm_ire C hR hS hr ((mm_pe hf).1) (mm_pe hf).2 dX6_cut_68
      · have hf := mm_if0 hc hf
        refine lv_iconst (v := 1) hx hb dX6_cut_63 (by decide) ?_
        refine lv_goto (tgt := 68) hx hb dX6_cut_64 (by decide) ?_
        exact mm_ire C hR hS hr ((mm_pe hf).1) (mm_pe hf).2 dX6_cut_68
    · have hf := mm_if0 hc hf
      refine lv_bipush (v := -2) hx hb dX6_cut_35 (by decide) ?_
      exact mm_ire C hR hS hr ((mm_pe hf).1) (mm_pe hf).2 dX6_cut_37
def ff_X6_stripOf (M : mm_M) (x0 : Nat) (x1 : Int32) (x2 : Int32) : Option Int32 := Option.bind (mm_gR 6 M x0 0) fun v1 => Option.bind (mm_gR 2 M v1 1) fun v2 => Option.bind (mm_ck 3 M v2) fun u3 => Option.bind (ff_X3_stripOrNull M v2 x1) fun o4 => mm_oc o4 (some (-1 : Int32)) (fun q5 => if x2 = (0 : Int32) then (Option.bind (mm_gI 4 M q5 2) fun v7 => some v7) else (if x2 = (1 : Int32) then (Option.bind (mm_gI 4 M q5 3) fun v9 => some v9) else (if x2 = (2 : Int32) then (Option.bind (mm_ck 4 M q5) fun u11 => Option.bind (ff_X4_left M q5) fun v12 => some v12) else (if x2 = (3 : Int32) then (Option.bind (mm_gI 4 M q5 1) fun v14 => some v14) else (if x2 = (4 : Int32) then (Option.bind (mm_gR 6 M x0 0) fun v16 => Option.bind (mm_gR 2 M v16 1) fun v17 => Option.bind (mm_gI 3 M v17 3) fun v18 => Option.bind (mm_gR 6 M x0 0) fun v19 => Option.bind (mm_gR 2 M v19 1) fun v20 => Option.bind (mm_gI 3 M v20 4) fun v21 => Option.bind (mm_ck 4 M q5) fun u22 => Option.bind (ff_X4_tesseraeAhead M q5 v18 v21) fun v23 => some v23) else (if x2 = (5 : Int32) then (Option.bind (mm_gR 6 M x0 0) fun v25 => Option.bind (mm_gR 2 M v25 1) fun v26 => Option.bind (mm_gI 3 M v26 3) fun v27 => Option.bind (mm_gR 6 M x0 0) fun v28 => Option.bind (mm_gR 2 M v28 1) fun v29 => Option.bind (mm_gI 3 M v29 4) fun v30 => Option.bind (mm_ck 4 M q5) fun u31 => Option.bind (ff_X4_goodTesseraeAhead M q5 v27 v30) fun v32 => some v32) else (if x2 = (6 : Int32) then (Option.bind (mm_gI 4 M q5 5) fun v34 => some v34) else (some (-1 : Int32)))))))))
def rm_X6_stripOf : Room := { frames := 2, cells := 0, slots := 0, locals := 50 }
set_option maxHeartbeats 4000000 in
set_option maxRecDepth 100000 in
theorem jj_X6_stripOf (l : Launch) (g : mm_G) (A : Nat → Prop) (M : mm_M) (x0 : Nat) (x1 : Int32) (x2 : Int32) (r : Int32) (hf : ff_X6_stripOf M x0 x1 x2 = some r) : Met l yX6_stripOf (mm_ws yX6_stripOf cX6_stripOf 4 (Option.some Jvm.ClassFile.FieldType.int)) rm_X6_stripOf (va_Pc [.ref x0, .int x1, .int x2] (mm_B g A M)) (mm_Ti g A r M) 0 0 A := by
  refine mm_met (g := g) (lv := [(0, .ref x0), (1, .int x1), (2, .int x2)]) (fun U h => h.2) (by decide +kernel) (Nat.le_of_ble_eq_true rfl) rfl ?_
  intro p e s m args below meth c ls C hr hnm hB hl
  obtain ⟨hR, hK⟩ := hB
  have hx := C.1
  have hb := C.2.1
  suffices hmain : ∀ (H : Heap) (locs : List Loc), mm_R g A M H → va_S A s.heap H locs → W p l e rm_X6_stripOf s m args below meth c H locs 0 0 (MQ below (mm_Ti g A r M) args s 0 0 A) (F0 m 0 ls []) from hmain _ _ hR va_S.rf
  clear hR
  intro H locs hR hS
  unfold ff_X6_stripOf at hf
  refine lv_aload_n hx hb dX6_stripOf_0 rfl (lv_at hl 0 rfl) ?_
  obtain ⟨v1, ev1, hf⟩ := mm_bd hf
  refine mm_getR C hR fs_X6_10 ev1 dX6_stripOf_1 ?_
  obtain ⟨v2, ev2, hf⟩ := mm_bd hf
  refine mm_getR C hR fs_X6_125 ev2 dX6_stripOf_4 ?_
  refine lv_iload_n hx hb dX6_stripOf_7 rfl (lv_at hl 1 rfl) ?_
  obtain ⟨u3, eu3, hf⟩ := mm_bd hf
  obtain ⟨o4, eo4, hf⟩ := mm_bd hf
  refine mm_callVr (As := [.int x1]) (rest := []) C hR hS hl.1 vs_X6_137 eu3 (jj_X3_stripOrNull l g A M v2 x1 o4 eo4) ⟨rfl, rfl, (Nat.le_of_ble_eq_true rfl), (Nat.le_of_ble_eq_true rfl)⟩ rfl (Nat.le_of_ble_eq_true rfl) ⟨Nat.zero_le _, Nat.zero_le _⟩ rfl dX6_stripOf_8 (fun H locs hR hS => ?_)
  cases o4 with
  | none =>
    have hf := mm_ocn hf
    refine lv_astore_nN (lv' := [(3, .null), (0, .ref x0), (1, .int x1), (2, .int x2)]) hx hb dX6_stripOf_11 rfl hl (by decide) rfl (fun ls hl => ?_)
    refine lv_aload_nN hx hb dX6_stripOf_12 rfl (lv_at hl 0 rfl) ?_
    refine lv_ifnonnullN hx hb dX6_stripOf_13 ?_
    refine lv_iconst (v := -1) hx hb dX6_stripOf_16 (by decide) ?_
    exact mm_ire C hR hS hr ((Option.some.inj hf)) rfl dX6_stripOf_17
  | some q5 =>
    have hf := mm_ocs hf
    refine lv_astore_n (lv' := [(3, .ref q5), (0, .ref x0), (1, .int x1), (2, .int x2)]) hx hb dX6_stripOf_11 rfl hl (by decide) rfl (fun ls hl => ?_)
    refine lv_aload_n hx hb dX6_stripOf_12 rfl (lv_at hl 0 rfl) ?_
    refine lv_ifnonnull (tgt := 18) hx hb dX6_stripOf_13 (by decide) ?_
    refine lv_iload_n hx hb dX6_stripOf_18 rfl (lv_at hl 3 rfl) ?_
    by_cases hk6 : x2 = (0 : Int32)
    · have hf := mm_if1 hk6 hf
      refine lv_tableIn (off := 41) (tgt := 60) hx hb dX6_stripOf_19 (by rw [hk6]; decide) (by rw [hk6]; decide) (by rw [hk6]; decide +kernel) (by decide) ?_
      refine lv_aload_n hx hb dX6_stripOf_60 rfl (lv_at hl 0 rfl) ?_
      obtain ⟨v7, ev7, hf⟩ := mm_bd hf
      refine mm_getI C hR fs_X6_146 ev7 dX6_stripOf_61 ?_
      exact mm_ire C hR hS hr ((Option.some.inj hf)) rfl dX6_stripOf_64
    · have hf := mm_if0 hk6 hf
      by_cases hk8 : x2 = (1 : Int32)
      · have hf := mm_if1 hk8 hf
        refine lv_tableIn (off := 46) (tgt := 65) hx hb dX6_stripOf_19 (by rw [hk8]; decide) (by rw [hk8]; decide) (by rw [hk8]; decide +kernel) (by decide) ?_
        refine lv_aload_n hx hb dX6_stripOf_65 rfl (lv_at hl 0 rfl) ?_
        obtain ⟨v9, ev9, hf⟩ := mm_bd hf
        refine mm_getI C hR fs_X6_169 ev9 dX6_stripOf_66 ?_
        exact mm_ire C hR hS hr ((Option.some.inj hf)) rfl dX6_stripOf_69
      · have hf := mm_if0 hk8 hf
        by_cases hk10 : x2 = (2 : Int32)
        · have hf := mm_if1 hk10 hf
          refine lv_tableIn (off := 51) (tgt := 70) hx hb dX6_stripOf_19 (by rw [hk10]; decide) (by rw [hk10]; decide) (by rw [hk10]; decide +kernel) (by decide) ?_
          refine lv_aload_n hx hb dX6_stripOf_70 rfl (lv_at hl 0 rfl) ?_
          obtain ⟨u11, eu11, hf⟩ := mm_bd hf
          obtain ⟨v12, ev12, hf⟩ := mm_bd hf
          refine mm_callVi (As := []) (rest := []) C hR hS hl.1 vs_X6_159 eu11 (jj_X4_left l g A M q5 v12 ev12) ⟨rfl, rfl, (Nat.le_of_ble_eq_true rfl), (Nat.le_of_ble_eq_true rfl)⟩ rfl (Nat.le_of_ble_eq_true rfl) ⟨Nat.zero_le _, Nat.zero_le _⟩ rfl dX6_stripOf_71 (fun H locs hR hS => ?_)
          exact mm_ire C hR hS hr ((Option.some.inj hf)) rfl dX6_stripOf_74
        · have hf := mm_if0 hk10 hf
          by_cases hk13 : x2 = (3 : Int32)
          · have hf := mm_if1 hk13 hf
            refine lv_tableIn (off := 56) (tgt := 75) hx hb dX6_stripOf_19 (by rw [hk13]; decide) (by rw [hk13]; decide) (by rw [hk13]; decide +kernel) (by decide) ?_
            refine lv_aload_n hx hb dX6_stripOf_75 rfl (lv_at hl 0 rfl) ?_
            obtain ⟨v14, ev14, hf⟩ := mm_bd hf
            refine mm_getI C hR fs_X6_152 ev14 dX6_stripOf_76 ?_
            exact mm_ire C hR hS hr ((Option.some.inj hf)) rfl dX6_stripOf_79
          · have hf := mm_if0 hk13 hf
            by_cases hk15 : x2 = (4 : Int32)
            · have hf := mm_if1 hk15 hf
              refine lv_tableIn (off := 61) (tgt := 80) hx hb dX6_stripOf_19 (by rw [hk15]; decide) (by rw [hk15]; decide) (by rw [hk15]; decide +kernel) (by decide) ?_
              refine lv_aload_n hx hb dX6_stripOf_80 rfl (lv_at hl 0 rfl) ?_
              refine lv_aload_n hx hb dX6_stripOf_81 rfl (lv_at hl 1 rfl) ?_
              obtain ⟨v16, ev16, hf⟩ := mm_bd hf
              refine mm_getR C hR fs_X6_10 ev16 dX6_stripOf_82 ?_
              obtain ⟨v17, ev17, hf⟩ := mm_bd hf
              refine mm_getR C hR fs_X6_125 ev17 dX6_stripOf_85 ?_
              obtain ⟨v18, ev18, hf⟩ := mm_bd hf
              refine mm_getI C hR fs_X6_162 ev18 dX6_stripOf_88 ?_
              refine lv_aload_n hx hb dX6_stripOf_91 rfl (lv_at hl 1 rfl) ?_
              obtain ⟨v19, ev19, hf⟩ := mm_bd hf
              refine mm_getR C hR fs_X6_10 ev19 dX6_stripOf_92 ?_
              obtain ⟨v20, ev20, hf⟩ := mm_bd hf
              refine mm_getR C hR fs_X6_125 ev20 dX6_stripOf_95 ?_
              obtain ⟨v21, ev21, hf⟩ := mm_bd hf
              refine mm_getI C hR fs_X6_172 ev21 dX6_stripOf_98 ?_
              obtain ⟨u22, eu22, hf⟩ := mm_bd hf
              obtain ⟨v23, ev23, hf⟩ := mm_bd hf
              refine mm_callVi (As := [.int v18, .int v21]) (rest := []) C hR hS hl.1 vs_X6_175 eu22 (jj_X4_tesseraeAhead l g A M q5 v18 v21 v23 ev23) ⟨rfl, rfl, (Nat.le_of_ble_eq_true rfl), (Nat.le_of_ble_eq_true rfl)⟩ rfl (Nat.le_of_ble_eq_true rfl) ⟨Nat.zero_le _, Nat.zero_le _⟩ rfl dX6_stripOf_101 (fun H locs hR hS => ?_)
              exact mm_ire C hR hS hr ((Option.some.inj hf)) rfl dX6_stripOf_104
            · have hf := mm_if0 hk15 hf
              by_cases hk24 : x2 = (5 : Int32)
              · have hf := mm_if1 hk24 hf
                refine lv_tableIn (off := 86) (tgt := 105) hx hb dX6_stripOf_19 (by rw [hk24]; decide) (by rw [hk24]; decide) (by rw [hk24]; decide +kernel) (by decide) ?_
                refine lv_aload_n hx hb dX6_stripOf_105 rfl (lv_at hl 0 rfl) ?_
                refine lv_aload_n hx hb dX6_stripOf_106 rfl (lv_at hl 1 rfl) ?_
                obtain ⟨v25, ev25, hf⟩ := mm_bd hf
                refine mm_getR C hR fs_X6_10 ev25 dX6_stripOf_107 ?_
                obtain ⟨v26, ev26, hf⟩ := mm_bd hf
                refine mm_getR C hR fs_X6_125 ev26 dX6_stripOf_110 ?_
                obtain ⟨v27, ev27, hf⟩ := mm_bd hf
                refine mm_getI C hR fs_X6_162 ev27 dX6_stripOf_113 ?_
                refine lv_aload_n hx hb dX6_stripOf_116 rfl (lv_at hl 1 rfl) ?_
                obtain ⟨v28, ev28, hf⟩ := mm_bd hf
                refine mm_getR C hR fs_X6_10 ev28 dX6_stripOf_117 ?_
                obtain ⟨v29, ev29, hf⟩ := mm_bd hf
                refine mm_getR C hR fs_X6_125 ev29 dX6_stripOf_120 ?_
                obtain ⟨v30, ev30, hf⟩ := mm_bd hf
                refine mm_getI C hR fs_X6_172 ev30 dX6_stripOf_123 ?_
                obtain ⟨u31, eu31, hf⟩ := mm_bd hf
                obtain ⟨v32, ev32, hf⟩ := mm_bd hf
                refine mm_callVi (As := [.int v27, .int v30]) (rest := []) C hR hS hl.1 vs_X6_178 eu31 (jj_X4_goodTesseraeAhead l g A M q5 v27 v30 v32 ev32) ⟨rfl, rfl, (Nat.le_of_ble_eq_true rfl), (Nat.le_of_ble_eq_true rfl)⟩ rfl (Nat.le_of_ble_eq_true rfl) ⟨Nat.zero_le _, Nat.zero_le _⟩ rfl dX6_stripOf_126 (fun H locs hR hS => ?_)
                exact mm_ire C hR hS hr ((Option.some.inj hf)) rfl dX6_stripOf_129
              · have hf := mm_if0 hk24 hf
                by_cases hk33 : x2 = (6 : Int32)
                · have hf := mm_if1 hk33 hf
                  refine lv_tableIn (off := 111) (tgt := 130) hx hb dX6_stripOf_19 (by rw [hk33]; decide) (by rw [hk33]; decide) (by rw [hk33]; decide +kernel) (by decide) ?_
                  refine lv_aload_n hx hb dX6_stripOf_130 rfl (lv_at hl 0 rfl) ?_
                  obtain ⟨v34, ev34, hf⟩ := mm_bd hf
                  refine mm_getI C hR fs_X6_181 ev34 dX6_stripOf_131 ?_
                  exact mm_ire C hR hS hr ((Option.some.inj hf)) rfl dX6_stripOf_134
                · have hf := mm_if0 hk33 hf
                  refine lv_tableOut (tgt := 135) hx hb dX6_stripOf_19 (by have qhk6 := lv_neT (a := 0) hk6 rfl; have qhk8 := lv_neT (a := 1) hk8 rfl; have qhk10 := lv_neT (a := 2) hk10 rfl; have qhk13 := lv_neT (a := 3) hk13 rfl; have qhk15 := lv_neT (a := 4) hk15 rfl; have qhk24 := lv_neT (a := 5) hk24 rfl; have qhk33 := lv_neT (a := 6) hk33 rfl; omega) (by decide) ?_
                  refine lv_iconst (v := -1) hx hb dX6_stripOf_135 (by decide) ?_
                  exact mm_ire C hR hS hr ((Option.some.inj hf)) rfl dX6_stripOf_136
def ff_X6_lay (M : mm_M) (x0 : Nat) (x1 : Int32) (x2 : Int32) : Option ((Int32 × mm_M)) := Option.bind (mm_gR 6 M x0 0) fun v1 => Option.bind (mm_gR 2 M v1 0) fun v2 => Option.bind (mm_ck 1 M v2) fun u3 => Option.bind (ff_X1_hasCell M v2 x1 x2) fun v4 => if v4 = (0 : Int32) then (some ((-1 : Int32), M)) else (Option.bind (mm_gR 6 M x0 0) fun v5 => Option.bind (mm_ck 2 M v5) fun u6 => Option.bind (ff_X2_isLaid M v5 x1 x2) fun v7 => if v7 = (0 : Int32) then (Option.bind (mm_gR 6 M x0 0) fun v8 => Option.bind (mm_ck 2 M v8) fun u9 => Option.bind (ff_X2_shadeForOrNone M v8 x1 x2) fun v10 => if v10 = (-1 : Int32) then (some ((-2 : Int32), M)) else (Option.bind (mm_gR 6 M x0 2) fun v11 => Option.bind (mm_gR 6 M x0 0) fun v12 => Option.bind (mm_ck 0 M v11) fun u13 => Option.bind (ff_X0_keep M v11 v12) fun M14 => Option.bind (mm_gR 6 M14 x0 0) fun v15 => Option.bind (mm_ck 2 M14 v15) fun u16 => Option.bind (ff_X2_layCellIfPossible M14 v15 x1 x2) fun M17 => Option.bind (mm_gR 6 M17 x0 0) fun v18 => Option.bind (mm_ck 2 M17 v18) fun u19 => Option.bind (ff_X2_laidOrNone M17 v18 x1 x2) fun v20 => some (v20, M17))) else (some ((-2 : Int32), M)))
def rm_X6_lay : Room := { frames := 5, cells := 0, slots := 0, locals := 121 }
set_option maxHeartbeats 4000000 in
set_option maxRecDepth 100000 in
theorem jj_X6_lay (l : Launch) (g : mm_G) (A : Nat → Prop) (M : mm_M) (x0 : Nat) (x1 : Int32) (x2 : Int32) (r : Int32) (M2 : mm_M) (hf : ff_X6_lay M x0 x1 x2 = some (r, M2)) : Met l yX6_lay (mm_ws yX6_lay cX6_lay 3 (Option.some Jvm.ClassFile.FieldType.int)) rm_X6_lay (va_Pc [.ref x0, .int x1, .int x2] (mm_B g A M)) (mm_Ti g A r M2) 0 0 A := by
  refine mm_met (g := g) (lv := [(0, .ref x0), (1, .int x1), (2, .int x2)]) (fun U h => h.2) (by decide +kernel) (Nat.le_of_ble_eq_true rfl) rfl ?_
  intro p e s m args below meth c ls C hr hnm hB hl
  obtain ⟨hR, hK⟩ := hB
  have hx := C.1
  have hb := C.2.1
  suffices hmain : ∀ (H : Heap) (locs : List Loc), mm_R g A M H → va_S A s.heap H locs → W p l e rm_X6_lay s m args below meth c H locs 0 0 (MQ below (mm_Ti g A r M2) args s 0 0 A) (F0 m 0 ls []) from hmain _ _ hR va_S.rf
  clear hR
  intro H locs hR hS
  unfold ff_X6_lay at hf
  refine lv_aload_n hx hb dX6_lay_0 rfl (lv_at hl 0 rfl) ?_
  obtain ⟨v1, ev1, hf⟩ := mm_bd hf
  refine mm_getR C hR fs_X6_10 ev1 dX6_lay_1 ?_
  obtain ⟨v2, ev2, hf⟩ := mm_bd hf
  refine mm_getR C hR fs_X6_45 ev2 dX6_lay_4 ?_
  refine lv_iload_n hx hb dX6_lay_7 rfl (lv_at hl 1 rfl) ?_
  refine lv_iload_n hx hb dX6_lay_8 rfl (lv_at hl 2 rfl) ?_
  obtain ⟨u3, eu3, hf⟩ := mm_bd hf
  obtain ⟨v4, ev4, hf⟩ := mm_bd hf
  refine mm_callVi (As := [.int x1, .int x2]) (rest := []) C hR hS hl.1 vs_X6_73 eu3 (jj_X1_hasCell l g A M v2 x1 x2 v4 ev4) ⟨rfl, rfl, (Nat.le_of_ble_eq_true rfl), (Nat.le_of_ble_eq_true rfl)⟩ rfl (Nat.le_of_ble_eq_true rfl) ⟨Nat.zero_le _, Nat.zero_le _⟩ rfl dX6_lay_9 (fun H locs hR hS => ?_)
  refine lv_if_ne (tgt := 17) hx hb dX6_lay_12 (by decide) (fun hc => ?_) (fun hc => ?_)
  · have hf := mm_if0 hc hf
    refine lv_aload_n hx hb dX6_lay_17 rfl (lv_at hl 0 rfl) ?_
    obtain ⟨v5, ev5, hf⟩ := mm_bd hf
    refine mm_getR C hR fs_X6_10 ev5 dX6_lay_18 ?_
    refine lv_iload_n hx hb dX6_lay_21 rfl (lv_at hl 1 rfl) ?_
    refine lv_iload_n hx hb dX6_lay_22 rfl (lv_at hl 2 rfl) ?_
    obtain ⟨u6, eu6, hf⟩ := mm_bd hf
    obtain ⟨v7, ev7, hf⟩ := mm_bd hf
    refine mm_callVi (As := [.int x1, .int x2]) (rest := []) C hR hS hl.1 vs_X6_84 eu6 (jj_X2_isLaid l g A M v5 x1 x2 v7 ev7) ⟨rfl, rfl, (Nat.le_of_ble_eq_true rfl), (Nat.le_of_ble_eq_true rfl)⟩ rfl (Nat.le_of_ble_eq_true rfl) ⟨Nat.zero_le _, Nat.zero_le _⟩ rfl dX6_lay_23 (fun H locs hR hS => ?_)
    refine lv_if_ne (tgt := 42) hx hb dX6_lay_26 (by decide) (fun hc => ?_) (fun hc => ?_)
    · have hf := mm_if0 hc hf
      refine lv_bipush (v := -2) hx hb dX6_lay_42 (by decide) ?_
      exact mm_ire C hR hS hr ((mm_pe hf).1) (mm_pe hf).2 dX6_lay_44
    · have hf := mm_if1 hc hf
      refine lv_aload_n hx hb dX6_lay_29 rfl (lv_at hl 0 rfl) ?_
      obtain ⟨v8, ev8, hf⟩ := mm_bd hf
      refine mm_getR C hR fs_X6_10 ev8 dX6_lay_30 ?_
      refine lv_iload_n hx hb dX6_lay_33 rfl (lv_at hl 1 rfl) ?_
      refine lv_iload_n hx hb dX6_lay_34 rfl (lv_at hl 2 rfl) ?_
      obtain ⟨u9, eu9, hf⟩ := mm_bd hf
      obtain ⟨v10, ev10, hf⟩ := mm_bd hf
      refine mm_callVi (As := [.int x1, .int x2]) (rest := []) C hR hS hl.1 vs_X6_184 eu9 (jj_X2_shadeForOrNone l g A M v8 x1 x2 v10 ev10) ⟨rfl, rfl, (Nat.le_of_ble_eq_true rfl), (Nat.le_of_ble_eq_true rfl)⟩ rfl (Nat.le_of_ble_eq_true rfl) ⟨Nat.zero_le _, Nat.zero_le _⟩ rfl dX6_lay_35 (fun H locs hR hS => ?_)
      refine lv_iconst (v := -1) hx hb dX6_lay_38 (by decide) ?_
      refine lv_icmp_ne (tgt := 45) hx hb dX6_lay_39 (by decide) (fun hc => ?_) (fun hc => ?_)
      · have hf := mm_if0 hc hf
        refine lv_aload_n hx hb dX6_lay_45 rfl (lv_at hl 0 rfl) ?_
        obtain ⟨v11, ev11, hf⟩ := mm_bd hf
        refine mm_getR C hR fs_X6_22 ev11 dX6_lay_46 ?_
        refine lv_aload_n hx hb dX6_lay_49 rfl (lv_at hl 0 rfl) ?_
        obtain ⟨v12, ev12, hf⟩ := mm_bd hf
        refine mm_getR C hR fs_X6_10 ev12 dX6_lay_50 ?_
        obtain ⟨u13, eu13, hf⟩ := mm_bd hf
        obtain ⟨M14, eM14, hf⟩ := mm_bd hf
        refine mm_callVv (As := [.ref v12]) (rest := []) C hR hS hl.1 vs_X6_41 eu13 (jj_X0_keep l g A M v11 v12 M14 eM14) ⟨rfl, rfl, (Nat.le_of_ble_eq_true rfl), (Nat.le_of_ble_eq_true rfl)⟩ rfl (Nat.le_of_ble_eq_true rfl) ⟨Nat.zero_le _, Nat.zero_le _⟩ rfl dX6_lay_53 (fun H locs hR hS => ?_)
        refine lv_aload_n hx hb dX6_lay_56 rfl (lv_at hl 0 rfl) ?_
        obtain ⟨v15, ev15, hf⟩ := mm_bd hf
        refine mm_getR C hR fs_X6_10 ev15 dX6_lay_57 ?_
        refine lv_iload_n hx hb dX6_lay_60 rfl (lv_at hl 1 rfl) ?_
        refine lv_iload_n hx hb dX6_lay_61 rfl (lv_at hl 2 rfl) ?_
        obtain ⟨u16, eu16, hf⟩ := mm_bd hf
        obtain ⟨M17, eM17, hf⟩ := mm_bd hf
        refine mm_callVv (As := [.int x1, .int x2]) (rest := []) C hR hS hl.1 vs_X6_187 eu16 (jj_X2_layCellIfPossible l g A M14 v15 x1 x2 M17 eM17) ⟨rfl, rfl, (Nat.le_of_ble_eq_true rfl), (Nat.le_of_ble_eq_true rfl)⟩ rfl (Nat.le_of_ble_eq_true rfl) ⟨Nat.zero_le _, Nat.zero_le _⟩ rfl dX6_lay_62 (fun H locs hR hS => ?_)
        refine lv_aload_n hx hb dX6_lay_65 rfl (lv_at hl 0 rfl) ?_
        obtain ⟨v18, ev18, hf⟩ := mm_bd hf
        refine mm_getR C hR fs_X6_10 ev18 dX6_lay_66 ?_
        refine lv_iload_n hx hb dX6_lay_69 rfl (lv_at hl 1 rfl) ?_
        refine lv_iload_n hx hb dX6_lay_70 rfl (lv_at hl 2 rfl) ?_
        obtain ⟨u19, eu19, hf⟩ := mm_bd hf
        obtain ⟨v20, ev20, hf⟩ := mm_bd hf
        refine mm_callVi (As := [.int x1, .int x2]) (rest := []) C hR hS hl.1 vs_X6_95 eu19 (jj_X2_laidOrNone l g A M17 v18 x1 x2 v20 ev20) ⟨rfl, rfl, (Nat.le_of_ble_eq_true rfl), (Nat.le_of_ble_eq_true rfl)⟩ rfl (Nat.le_of_ble_eq_true rfl) ⟨Nat.zero_le _, Nat.zero_le _⟩ rfl dX6_lay_71 (fun H locs hR hS => ?_)
        exact mm_ire C hR hS hr ((mm_pe hf).1) (mm_pe hf).2 dX6_lay_74
      · have hf := mm_if1 hc hf
        refine lv_bipush (v := -2) hx hb dX6_lay_42 (by decide) ?_
        exact mm_ire C hR hS hr ((mm_pe hf).1) (mm_pe hf).2 dX6_lay_44
  · have hf := mm_if1 hc hf
    refine lv_iconst (v := -1) hx hb dX6_lay_15 (by decide) ?_
    exact mm_ire C hR hS hr ((mm_pe hf).1) (mm_pe hf).2 dX6_lay_16
def ff_X6_layAll (M : mm_M) (x0 : Nat) : Option ((Int32 × mm_M)) := Option.bind (mm_gR 6 M x0 2) fun v1 => Option.bind (mm_gR 6 M x0 0) fun v2 => Option.bind (mm_ck 0 M v1) fun u3 => Option.bind (ff_X0_keep M v1 v2) fun M4 => Option.bind (mm_gR 6 M4 x0 0) fun v5 => Option.bind (mm_ck 2 M4 v5) fun u6 => Option.bind (ff_X2_layEmptyCells M4 v5) (mm_u2 fun v7 M8 => some (v7, M8))
def rm_X6_layAll : Room := { frames := 6, cells := 0, slots := 0, locals := 144 }
set_option maxHeartbeats 4000000 in
set_option maxRecDepth 100000 in
theorem jj_X6_layAll (l : Launch) (g : mm_G) (A : Nat → Prop) (M : mm_M) (x0 : Nat) (r : Int32) (M2 : mm_M) (hf : ff_X6_layAll M x0 = some (r, M2)) : Met l yX6_layAll (mm_ws yX6_layAll cX6_layAll 1 (Option.some Jvm.ClassFile.FieldType.int)) rm_X6_layAll (va_Pc [.ref x0] (mm_B g A M)) (mm_Ti g A r M2) 0 0 A := by
  refine mm_met (g := g) (lv := [(0, .ref x0)]) (fun U h => h.2) (by decide +kernel) (Nat.le_of_ble_eq_true rfl) rfl ?_
  intro p e s m args below meth c ls C hr hnm hB hl
  obtain ⟨hR, hK⟩ := hB
  have hx := C.1
  have hb := C.2.1
  suffices hmain : ∀ (H : Heap) (locs : List Loc), mm_R g A M H → va_S A s.heap H locs → W p l e rm_X6_layAll s m args below meth c H locs 0 0 (MQ below (mm_Ti g A r M2) args s 0 0 A) (F0 m 0 ls []) from hmain _ _ hR va_S.rf
  clear hR
  intro H locs hR hS
  unfold ff_X6_layAll at hf
  refine lv_aload_n hx hb dX6_layAll_0 rfl (lv_at hl 0 rfl) ?_
  obtain ⟨v1, ev1, hf⟩ := mm_bd hf
  refine mm_getR C hR fs_X6_22 ev1 dX6_layAll_1 ?_
  refine lv_aload_n hx hb dX6_layAll_4 rfl (lv_at hl 0 rfl) ?_
  obtain ⟨v2, ev2, hf⟩ := mm_bd hf
  refine mm_getR C hR fs_X6_10 ev2 dX6_layAll_5 ?_
  obtain ⟨u3, eu3, hf⟩ := mm_bd hf
  obtain ⟨M4, eM4, hf⟩ := mm_bd hf
  refine mm_callVv (As := [.ref v2]) (rest := []) C hR hS hl.1 vs_X6_41 eu3 (jj_X0_keep l g A M v1 v2 M4 eM4) ⟨rfl, rfl, (Nat.le_of_ble_eq_true rfl), (Nat.le_of_ble_eq_true rfl)⟩ rfl (Nat.le_of_ble_eq_true rfl) ⟨Nat.zero_le _, Nat.zero_le _⟩ rfl dX6_layAll_8 (fun H locs hR hS => ?_)
  refine lv_aload_n hx hb dX6_layAll_11 rfl (lv_at hl 0 rfl) ?_
  obtain ⟨v5, ev5, hf⟩ := mm_bd hf
  refine mm_getR C hR fs_X6_10 ev5 dX6_layAll_12 ?_
  obtain ⟨u6, eu6, hf⟩ := mm_bd hf
  obtain ⟨⟨v7, M8⟩, ev7, hf⟩ := mm_bd hf
  have hf := mm_u2e hf
  refine mm_callVi (As := []) (rest := []) C hR hS hl.1 vs_X6_190 eu6 (jj_X2_layEmptyCells l g A M4 v5 v7 M8 ev7) ⟨rfl, rfl, (Nat.le_of_ble_eq_true rfl), (Nat.le_of_ble_eq_true rfl)⟩ rfl (Nat.le_of_ble_eq_true rfl) ⟨Nat.zero_le _, Nat.zero_le _⟩ rfl dX6_layAll_15 (fun H locs hR hS => ?_)
  exact mm_ire C hR hS hr ((mm_pe hf).1) (mm_pe hf).2 dX6_layAll_18
def ff_X6_lift (M : mm_M) (x0 : Nat) (x1 : Int32) (x2 : Int32) : Option ((Int32 × mm_M)) := Option.bind (mm_gR 6 M x0 0) fun v1 => Option.bind (mm_gR 2 M v1 0) fun v2 => Option.bind (mm_ck 1 M v2) fun u3 => Option.bind (ff_X1_hasCell M v2 x1 x2) fun v4 => if v4 = (0 : Int32) then (some ((-1 : Int32), M)) else (Option.bind (mm_gR 6 M x0 0) fun v5 => Option.bind (mm_ck 2 M v5) fun u6 => Option.bind (ff_X2_isLaid M v5 x1 x2) fun v7 => if v7 = (0 : Int32) then (some ((-2 : Int32), M)) else (Option.bind (mm_gR 6 M x0 2) fun v8 => Option.bind (mm_gR 6 M x0 0) fun v9 => Option.bind (mm_ck 0 M v8) fun u10 => Option.bind (ff_X0_keep M v8 v9) fun M11 => Option.bind (mm_gR 6 M11 x0 0) fun v12 => Option.bind (mm_ck 2 M11 v12) fun u13 => Option.bind (ff_X2_liftToHand M11 v12 x1 x2) (mm_u2 fun v14 M15 => if v14 = (0 : Int32) then (some ((0 : Int32), M15)) else (some ((1 : Int32), M15)))))
def rm_X6_lift : Room := { frames := 5, cells := 0, slots := 0, locals := 111 }
set_option maxHeartbeats 4000000 in
set_option maxRecDepth 100000 in
theorem jj_X6_lift (l : Launch) (g : mm_G) (A : Nat → Prop) (M : mm_M) (x0 : Nat) (x1 : Int32) (x2 : Int32) (r : Int32) (M2 : mm_M) (hf : ff_X6_lift M x0 x1 x2 = some (r, M2)) : Met l yX6_lift (mm_ws yX6_lift cX6_lift 3 (Option.some Jvm.ClassFile.FieldType.int)) rm_X6_lift (va_Pc [.ref x0, .int x1, .int x2] (mm_B g A M)) (mm_Ti g A r M2) 0 0 A := by
  refine mm_met (g := g) (lv := [(0, .ref x0), (1, .int x1), (2, .int x2)]) (fun U h => h.2) (by decide +kernel) (Nat.le_of_ble_eq_true rfl) rfl ?_
  intro p e s m args below meth c ls C hr hnm hB hl
  obtain ⟨hR, hK⟩ := hB
  have hx := C.1
  have hb := C.2.1
  suffices hmain : ∀ (H : Heap) (locs : List Loc), mm_R g A M H → va_S A s.heap H locs → W p l e rm_X6_lift s m args below meth c H locs 0 0 (MQ below (mm_Ti g A r M2) args s 0 0 A) (F0 m 0 ls []) from hmain _ _ hR va_S.rf
  clear hR
  intro H locs hR hS
  unfold ff_X6_lift at hf
  refine lv_aload_n hx hb dX6_lift_0 rfl (lv_at hl 0 rfl) ?_
  obtain ⟨v1, ev1, hf⟩ := mm_bd hf
  refine mm_getR C hR fs_X6_10 ev1 dX6_lift_1 ?_
  obtain ⟨v2, ev2, hf⟩ := mm_bd hf
  refine mm_getR C hR fs_X6_45 ev2 dX6_lift_4 ?_
  refine lv_iload_n hx hb dX6_lift_7 rfl (lv_at hl 1 rfl) ?_
  refine lv_iload_n hx hb dX6_lift_8 rfl (lv_at hl 2 rfl) ?_
  obtain ⟨u3, eu3, hf⟩ := mm_bd hf
  obtain ⟨v4, ev4, hf⟩ := mm_bd hf
  refine mm_callVi (As := [.int x1, .int x2]) (rest := []) C hR hS hl.1 vs_X6_73 eu3 (jj_X1_hasCell l g A M v2 x1 x2 v4 ev4) ⟨rfl, rfl, (Nat.le_of_ble_eq_true rfl), (Nat.le_of_ble_eq_true rfl)⟩ rfl (Nat.le_of_ble_eq_true rfl) ⟨Nat.zero_le _, Nat.zero_le _⟩ rfl dX6_lift_9 (fun H locs hR hS => ?_)
  refine lv_if_ne (tgt := 17) hx hb dX6_lift_12 (by decide) (fun hc => ?_) (fun hc => ?_)
  · have hf := mm_if0 hc hf
    refine lv_aload_n hx hb dX6_lift_17 rfl (lv_at hl 0 rfl) ?_
    obtain ⟨v5, ev5, hf⟩ := mm_bd hf
    refine mm_getR C hR fs_X6_10 ev5 dX6_lift_18 ?_
    refine lv_iload_n hx hb dX6_lift_21 rfl (lv_at hl 1 rfl) ?_
    refine lv_iload_n hx hb dX6_lift_22 rfl (lv_at hl 2 rfl) ?_
    obtain ⟨u6, eu6, hf⟩ := mm_bd hf
    obtain ⟨v7, ev7, hf⟩ := mm_bd hf
    refine mm_callVi (As := [.int x1, .int x2]) (rest := []) C hR hS hl.1 vs_X6_84 eu6 (jj_X2_isLaid l g A M v5 x1 x2 v7 ev7) ⟨rfl, rfl, (Nat.le_of_ble_eq_true rfl), (Nat.le_of_ble_eq_true rfl)⟩ rfl (Nat.le_of_ble_eq_true rfl) ⟨Nat.zero_le _, Nat.zero_le _⟩ rfl dX6_lift_23 (fun H locs hR hS => ?_)
    refine lv_if_ne (tgt := 32) hx hb dX6_lift_26 (by decide) (fun hc => ?_) (fun hc => ?_)
    · have hf := mm_if0 hc hf
      refine lv_aload_n hx hb dX6_lift_32 rfl (lv_at hl 0 rfl) ?_
      obtain ⟨v8, ev8, hf⟩ := mm_bd hf
      refine mm_getR C hR fs_X6_22 ev8 dX6_lift_33 ?_
      refine lv_aload_n hx hb dX6_lift_36 rfl (lv_at hl 0 rfl) ?_
      obtain ⟨v9, ev9, hf⟩ := mm_bd hf
      refine mm_getR C hR fs_X6_10 ev9 dX6_lift_37 ?_
      obtain ⟨u10, eu10, hf⟩ := mm_bd hf
      obtain ⟨M11, eM11, hf⟩ := mm_bd hf
      refine mm_callVv (As := [.ref v9]) (rest := []) C hR hS hl.1 vs_X6_41 eu10 (jj_X0_keep l g A M v8 v9 M11 eM11) ⟨rfl, rfl, (Nat.le_of_ble_eq_true rfl), (Nat.le_of_ble_eq_true rfl)⟩ rfl (Nat.le_of_ble_eq_true rfl) ⟨Nat.zero_le _, Nat.zero_le _⟩ rfl dX6_lift_40 (fun H locs hR hS => ?_)
      refine lv_aload_n hx hb dX6_lift_43 rfl (lv_at hl 0 rfl) ?_
      obtain ⟨v12, ev12, hf⟩ := mm_bd hf
      refine mm_getR C hR fs_X6_10 ev12 dX6_lift_44 ?_
      refine lv_iload_n hx hb dX6_lift_47 rfl (lv_at hl 1 rfl) ?_
      refine lv_iload_n hx hb dX6_lift_48 rfl (lv_at hl 2 rfl) ?_
      obtain ⟨u13, eu13, hf⟩ := mm_bd hf
      obtain ⟨⟨v14, M15⟩, ev14, hf⟩ := mm_bd hf
      have hf := mm_u2e hf
      refine mm_callVi (As := [.int x1, .int x2]) (rest := []) C hR hS hl.1 vs_X6_193 eu13 (jj_X2_liftToHand l g A M11 v12 x1 x2 v14 M15 ev14) ⟨rfl, rfl, (Nat.le_of_ble_eq_true rfl), (Nat.le_of_ble_eq_true rfl)⟩ rfl (Nat.le_of_ble_eq_true rfl) ⟨Nat.zero_le _, Nat.zero_le _⟩ rfl dX6_lift_49 (fun H locs hR hS => ?_)
      refine lv_if_eq (tgt := 59) hx hb dX6_lift_52 (by decide) (fun hc => ?_) (fun hc => ?_)
      · have hf := mm_if1 hc hf
        refine lv_iconst (v := 0) hx hb dX6_lift_59 (by decide) ?_
        exact mm_ire C hR hS hr ((mm_pe hf).1) (mm_pe hf).2 dX6_lift_60
      · have hf := mm_if0 hc hf
        refine lv_iconst (v := 1) hx hb dX6_lift_55 (by decide) ?_
        refine lv_goto (tgt := 60) hx hb dX6_lift_56 (by decide) ?_
        exact mm_ire C hR hS hr ((mm_pe hf).1) (mm_pe hf).2 dX6_lift_60
    · have hf := mm_if1 hc hf
      refine lv_bipush (v := -2) hx hb dX6_lift_29 (by decide) ?_
      exact mm_ire C hR hS hr ((mm_pe hf).1) (mm_pe hf).2 dX6_lift_31
  · have hf := mm_if1 hc hf
    refine lv_iconst (v := -1) hx hb dX6_lift_15 (by decide) ?_
    exact mm_ire C hR hS hr ((mm_pe hf).1) (mm_pe hf).2 dX6_lift_16
def ff_X6_nearest (M : mm_M) (x0 : Nat) (x1 : Int32) (x2 : Int32) : Option Int32 := Option.bind (mm_gR 6 M x0 0) fun v1 => Option.bind (mm_gR 2 M v1 0) fun v2 => Option.bind (mm_ck 1 M v2) fun u3 => Option.bind (ff_X1_hasCell M v2 x1 x2) fun v4 => if v4 = (0 : Int32) then (some (-1 : Int32)) else (Option.bind (mm_gR 6 M x0 0) fun v5 => Option.bind (mm_ck 2 M v5) fun u6 => Option.bind (ff_X2_isLaid M v5 x1 x2) fun v7 => if v7 = (0 : Int32) then (Option.bind (mm_gR 6 M x0 0) fun v8 => Option.bind (mm_ck 2 M v8) fun u9 => Option.bind (ff_X2_shadeForOrNone M v8 x1 x2) fun v10 => if v10 = (-1 : Int32) then (some (-4 : Int32)) else (some v10)) else (some (-4 : Int32)))
def rm_X6_nearest : Room := { frames := 4, cells := 0, slots := 0, locals := 97 }
set_option maxHeartbeats 4000000 in
set_option maxRecDepth 100000 in
theorem jj_X6_nearest (l : Launch) (g : mm_G) (A : Nat → Prop) (M : mm_M) (x0 : Nat) (x1 : Int32) (x2 : Int32) (r : Int32) (hf : ff_X6_nearest M x0 x1 x2 = some r) : Met l yX6_nearest (mm_ws yX6_nearest cX6_nearest 4 (Option.some Jvm.ClassFile.FieldType.int)) rm_X6_nearest (va_Pc [.ref x0, .int x1, .int x2] (mm_B g A M)) (mm_Ti g A r M) 0 0 A := by
  refine mm_met (g := g) (lv := [(0, .ref x0), (1, .int x1), (2, .int x2)]) (fun U h => h.2) (by decide +kernel) (Nat.le_of_ble_eq_true rfl) rfl ?_
  intro p e s m args below meth c ls C hr hnm hB hl
  obtain ⟨hR, hK⟩ := hB
  have hx := C.1
  have hb := C.2.1
  suffices hmain : ∀ (H : Heap) (locs : List Loc), mm_R g A M H → va_S A s.heap H locs → W p l e rm_X6_nearest s m args below meth c H locs 0 0 (MQ below (mm_Ti g A r M) args s 0 0 A) (F0 m 0 ls []) from hmain _ _ hR va_S.rf
  clear hR
  intro H locs hR hS
  unfold ff_X6_nearest at hf
  refine lv_aload_n hx hb dX6_nearest_0 rfl (lv_at hl 0 rfl) ?_
  obtain ⟨v1, ev1, hf⟩ := mm_bd hf
  refine mm_getR C hR fs_X6_10 ev1 dX6_nearest_1 ?_
  obtain ⟨v2, ev2, hf⟩ := mm_bd hf
  refine mm_getR C hR fs_X6_45 ev2 dX6_nearest_4 ?_
  refine lv_iload_n hx hb dX6_nearest_7 rfl (lv_at hl 1 rfl) ?_
  refine lv_iload_n hx hb dX6_nearest_8 rfl (lv_at hl 2 rfl) ?_
  obtain ⟨u3, eu3, hf⟩ := mm_bd hf
  obtain ⟨v4, ev4, hf⟩ := mm_bd hf
  refine mm_callVi (As := [.int x1, .int x2]) (rest := []) C hR hS hl.1 vs_X6_73 eu3 (jj_X1_hasCell l g A M v2 x1 x2 v4 ev4) ⟨rfl, rfl, (Nat.le_of_ble_eq_true rfl), (Nat.le_of_ble_eq_true rfl)⟩ rfl (Nat.le_of_ble_eq_true rfl) ⟨Nat.zero_le _, Nat.zero_le _⟩ rfl dX6_nearest_9 (fun H locs hR hS => ?_)
  refine lv_if_ne (tgt := 17) hx hb dX6_nearest_12 (by decide) (fun hc => ?_) (fun hc => ?_)
  · have hf := mm_if0 hc hf
    refine lv_aload_n hx hb dX6_nearest_17 rfl (lv_at hl 0 rfl) ?_
    obtain ⟨v5, ev5, hf⟩ := mm_bd hf
    refine mm_getR C hR fs_X6_10 ev5 dX6_nearest_18 ?_
    refine lv_iload_n hx hb dX6_nearest_21 rfl (lv_at hl 1 rfl) ?_
    refine lv_iload_n hx hb dX6_nearest_22 rfl (lv_at hl 2 rfl) ?_
    obtain ⟨u6, eu6, hf⟩ := mm_bd hf
    obtain ⟨v7, ev7, hf⟩ := mm_bd hf
    refine mm_callVi (As := [.int x1, .int x2]) (rest := []) C hR hS hl.1 vs_X6_84 eu6 (jj_X2_isLaid l g A M v5 x1 x2 v7 ev7) ⟨rfl, rfl, (Nat.le_of_ble_eq_true rfl), (Nat.le_of_ble_eq_true rfl)⟩ rfl (Nat.le_of_ble_eq_true rfl) ⟨Nat.zero_le _, Nat.zero_le _⟩ rfl dX6_nearest_23 (fun H locs hR hS => ?_)
    refine lv_if_eq (tgt := 32) hx hb dX6_nearest_26 (by decide) (fun hc => ?_) (fun hc => ?_)
    · have hf := mm_if1 hc hf
      refine lv_aload_n hx hb dX6_nearest_32 rfl (lv_at hl 0 rfl) ?_
      obtain ⟨v8, ev8, hf⟩ := mm_bd hf
      refine mm_getR C hR fs_X6_10 ev8 dX6_nearest_33 ?_
      refine lv_iload_n hx hb dX6_nearest_36 rfl (lv_at hl 1 rfl) ?_
      refine lv_iload_n hx hb dX6_nearest_37 rfl (lv_at hl 2 rfl) ?_
      obtain ⟨u9, eu9, hf⟩ := mm_bd hf
      obtain ⟨v10, ev10, hf⟩ := mm_bd hf
      refine mm_callVi (As := [.int x1, .int x2]) (rest := []) C hR hS hl.1 vs_X6_184 eu9 (jj_X2_shadeForOrNone l g A M v8 x1 x2 v10 ev10) ⟨rfl, rfl, (Nat.le_of_ble_eq_true rfl), (Nat.le_of_ble_eq_true rfl)⟩ rfl (Nat.le_of_ble_eq_true rfl) ⟨Nat.zero_le _, Nat.zero_le _⟩ rfl dX6_nearest_38 (fun H locs hR hS => ?_)
      refine lv_istore_n (lv' := [(3, .int v10), (0, .ref x0), (1, .int x1), (2, .int x2)]) hx hb dX6_nearest_41 rfl hl (by decide) rfl (fun ls hl => ?_)
      refine lv_iload_n hx hb dX6_nearest_42 rfl (lv_at hl 0 rfl) ?_
      refine lv_iconst (v := -1) hx hb dX6_nearest_43 (by decide) ?_
      refine lv_icmp_ne (tgt := 52) hx hb dX6_nearest_44 (by decide) (fun hc => ?_) (fun hc => ?_)
      · have hf := mm_if0 hc hf
        refine lv_iload_n hx hb dX6_nearest_52 rfl (lv_at hl 0 rfl) ?_
        exact mm_ire C hR hS hr ((Option.some.inj hf)) rfl dX6_nearest_53
      · have hf := mm_if1 hc hf
        refine lv_bipush (v := -4) hx hb dX6_nearest_47 (by decide) ?_
        refine lv_goto (tgt := 53) hx hb dX6_nearest_49 (by decide) ?_
        exact mm_ire C hR hS hr ((Option.some.inj hf)) rfl dX6_nearest_53
    · have hf := mm_if0 hc hf
      refine lv_bipush (v := -4) hx hb dX6_nearest_29 (by decide) ?_
      exact mm_ire C hR hS hr ((Option.some.inj hf)) rfl dX6_nearest_31
  · have hf := mm_if1 hc hf
    refine lv_iconst (v := -1) hx hb dX6_nearest_15 (by decide) ?_
    exact mm_ire C hR hS hr ((Option.some.inj hf)) rfl dX6_nearest_16
def ff_X6_ready (M : mm_M) (x0 : Nat) (x1 : Int32) : Option Int32 := Option.bind (ff_X6_isShade M x1) fun v1 => if v1 = (0 : Int32) then (some (-1 : Int32)) else (Option.bind (mm_gR 6 M x0 0) fun v2 => Option.bind (mm_gR 2 M v2 1) fun v3 => Option.bind (mm_ck 3 M v3) fun u4 => Option.bind (ff_X3_readyOf M v3 x1) fun v5 => some v5)
def rm_X6_ready : Room := { frames := 3, cells := 0, slots := 0, locals := 76 }
set_option maxHeartbeats 4000000 in
set_option maxRecDepth 100000 in
theorem jj_X6_ready (l : Launch) (g : mm_G) (A : Nat → Prop) (M : mm_M) (x0 : Nat) (x1 : Int32) (r : Int32) (hf : ff_X6_ready M x0 x1 = some r) : Met l yX6_ready (mm_ws yX6_ready cX6_ready 2 (Option.some Jvm.ClassFile.FieldType.int)) rm_X6_ready (va_Pc [.ref x0, .int x1] (mm_B g A M)) (mm_Ti g A r M) 0 0 A := by
  refine mm_met (g := g) (lv := [(0, .ref x0), (1, .int x1)]) (fun U h => h.2) (by decide +kernel) (Nat.le_of_ble_eq_true rfl) rfl ?_
  intro p e s m args below meth c ls C hr hnm hB hl
  obtain ⟨hR, hK⟩ := hB
  have hx := C.1
  have hb := C.2.1
  suffices hmain : ∀ (H : Heap) (locs : List Loc), mm_R g A M H → va_S A s.heap H locs → W p l e rm_X6_ready s m args below meth c H locs 0 0 (MQ below (mm_Ti g A r M) args s 0 0 A) (F0 m 0 ls []) from hmain _ _ hR va_S.rf
  clear hR
  intro H locs hR hS
  unfold ff_X6_ready at hf
  refine lv_iload_n hx hb dX6_ready_0 rfl (lv_at hl 1 rfl) ?_
  obtain ⟨v1, ev1, hf⟩ := mm_bd hf
  refine mm_callSi (As := [.int x1]) (rest := []) C hR hS hl.1 ss_X6_77 (jj_X6_isShade l g A M x1 v1 ev1) ⟨rfl, rfl, (Nat.le_of_ble_eq_true rfl), (Nat.le_of_ble_eq_true rfl)⟩ rfl (Nat.le_of_ble_eq_true rfl) ⟨Nat.zero_le _, Nat.zero_le _⟩ rfl dX6_ready_1 (fun H locs hR hS => ?_)
  refine lv_if_eq (tgt := 21) hx hb dX6_ready_4 (by decide) (fun hc => ?_) (fun hc => ?_)
  · have hf := mm_if1 hc hf
    refine lv_iconst (v := -1) hx hb dX6_ready_21 (by decide) ?_
    exact mm_ire C hR hS hr ((Option.some.inj hf)) rfl dX6_ready_22
  · have hf := mm_if0 hc hf
    refine lv_aload_n hx hb dX6_ready_7 rfl (lv_at hl 0 rfl) ?_
    obtain ⟨v2, ev2, hf⟩ := mm_bd hf
    refine mm_getR C hR fs_X6_10 ev2 dX6_ready_8 ?_
    obtain ⟨v3, ev3, hf⟩ := mm_bd hf
    refine mm_getR C hR fs_X6_125 ev3 dX6_ready_11 ?_
    refine lv_iload_n hx hb dX6_ready_14 rfl (lv_at hl 1 rfl) ?_
    obtain ⟨u4, eu4, hf⟩ := mm_bd hf
    obtain ⟨v5, ev5, hf⟩ := mm_bd hf
    refine mm_callVi (As := [.int x1]) (rest := []) C hR hS hl.1 vs_X6_196 eu4 (jj_X3_readyOf l g A M v3 x1 v5 ev5) ⟨rfl, rfl, (Nat.le_of_ble_eq_true rfl), (Nat.le_of_ble_eq_true rfl)⟩ rfl (Nat.le_of_ble_eq_true rfl) ⟨Nat.zero_le _, Nat.zero_le _⟩ rfl dX6_ready_15 (fun H locs hR hS => ?_)
    refine lv_goto (tgt := 22) hx hb dX6_ready_18 (by decide) ?_
    exact mm_ire C hR hS hr ((Option.some.inj hf)) rfl dX6_ready_22
def ff_X6_lacks (M : mm_M) (x0 : Nat) (x1 : Int32) : Option Int32 := Option.bind (ff_X6_isShade M x1) fun v1 => if v1 = (0 : Int32) then (some (-1 : Int32)) else (Option.bind (mm_gR 6 M x0 0) fun v2 => Option.bind (mm_ck 2 M v2) fun u3 => Option.bind (ff_X2_lackOf M v2 x1) fun v4 => some v4)
def rm_X6_lacks : Room := { frames := 4, cells := 0, slots := 0, locals := 100 }
set_option maxHeartbeats 4000000 in
set_option maxRecDepth 100000 in
theorem jj_X6_lacks (l : Launch) (g : mm_G) (A : Nat → Prop) (M : mm_M) (x0 : Nat) (x1 : Int32) (r : Int32) (hf : ff_X6_lacks M x0 x1 = some r) : Met l yX6_lacks (mm_ws yX6_lacks cX6_lacks 2 (Option.some Jvm.ClassFile.FieldType.int)) rm_X6_lacks (va_Pc [.ref x0, .int x1] (mm_B g A M)) (mm_Ti g A r M) 0 0 A := by
  refine mm_met (g := g) (lv := [(0, .ref x0), (1, .int x1)]) (fun U h => h.2) (by decide +kernel) (Nat.le_of_ble_eq_true rfl) rfl ?_
  intro p e s m args below meth c ls C hr hnm hB hl
  obtain ⟨hR, hK⟩ := hB
  have hx := C.1
  have hb := C.2.1
  suffices hmain : ∀ (H : Heap) (locs : List Loc), mm_R g A M H → va_S A s.heap H locs → W p l e rm_X6_lacks s m args below meth c H locs 0 0 (MQ below (mm_Ti g A r M) args s 0 0 A) (F0 m 0 ls []) from hmain _ _ hR va_S.rf
  clear hR
  intro H locs hR hS
  unfold ff_X6_lacks at hf
  refine lv_iload_n hx hb dX6_lacks_0 rfl (lv_at hl 1 rfl) ?_
  obtain ⟨v1, ev1, hf⟩ := mm_bd hf
  refine mm_callSi (As := [.int x1]) (rest := []) C hR hS hl.1 ss_X6_77 (jj_X6_isShade l g A M x1 v1 ev1) ⟨rfl, rfl, (Nat.le_of_ble_eq_true rfl), (Nat.le_of_ble_eq_true rfl)⟩ rfl (Nat.le_of_ble_eq_true rfl) ⟨Nat.zero_le _, Nat.zero_le _⟩ rfl dX6_lacks_1 (fun H locs hR hS => ?_)
  refine lv_if_eq (tgt := 18) hx hb dX6_lacks_4 (by decide) (fun hc => ?_) (fun hc => ?_)
  · have hf := mm_if1 hc hf
    refine lv_iconst (v := -1) hx hb dX6_lacks_18 (by decide) ?_
    exact mm_ire C hR hS hr ((Option.some.inj hf)) rfl dX6_lacks_19
  · have hf := mm_if0 hc hf
    refine lv_aload_n hx hb dX6_lacks_7 rfl (lv_at hl 0 rfl) ?_
    obtain ⟨v2, ev2, hf⟩ := mm_bd hf
    refine mm_getR C hR fs_X6_10 ev2 dX6_lacks_8 ?_
    refine lv_iload_n hx hb dX6_lacks_11 rfl (lv_at hl 1 rfl) ?_
    obtain ⟨u3, eu3, hf⟩ := mm_bd hf
    obtain ⟨v4, ev4, hf⟩ := mm_bd hf
    refine mm_callVi (As := [.int x1]) (rest := []) C hR hS hl.1 vs_X6_199 eu3 (jj_X2_lackOf l g A M v2 x1 v4 ev4) ⟨rfl, rfl, (Nat.le_of_ble_eq_true rfl), (Nat.le_of_ble_eq_true rfl)⟩ rfl (Nat.le_of_ble_eq_true rfl) ⟨Nat.zero_le _, Nat.zero_le _⟩ rfl dX6_lacks_12 (fun H locs hR hS => ?_)
    refine lv_goto (tgt := 19) hx hb dX6_lacks_15 (by decide) ?_
    exact mm_ire C hR hS hr ((Option.some.inj hf)) rfl dX6_lacks_19
def ff_X6_stripFor (M : mm_M) (x0 : Nat) (x1 : Int32) : Option Int32 := Option.bind (ff_X6_isShade M x1) fun v1 => if v1 = (0 : Int32) then (some (-1 : Int32)) else (Option.bind (mm_gR 6 M x0 0) fun v2 => Option.bind (mm_ck 2 M v2) fun u3 => Option.bind (ff_X2_lackOf M v2 x1) fun v4 => if v4 = (0 : Int32) then (some (0 : Int32)) else (Option.bind (mm_gR 6 M x0 0) fun v5 => Option.bind (mm_gR 2 M v5 1) fun v6 => Option.bind (mm_gI 3 M v6 3) fun v7 => Option.bind (mm_gR 6 M x0 0) fun v8 => Option.bind (mm_gR 2 M v8 1) fun v9 => Option.bind (mm_gI 3 M v9 4) fun v10 => if ((v4 * v7) + ((v4 - (1 : Int32)) * v10)) ≤ (1000 : Int32) then (some (mm_mx ((v4 * v7) + ((v4 - (1 : Int32)) * v10)) (20 : Int32))) else (some (-4 : Int32))))
def rm_X6_stripFor : Room := { frames := 4, cells := 0, slots := 0, locals := 100 }
set_option maxHeartbeats 4000000 in
set_option maxRecDepth 100000 in
theorem jj_X6_stripFor (l : Launch) (g : mm_G) (A : Nat → Prop) (M : mm_M) (x0 : Nat) (x1 : Int32) (r : Int32) (hf : ff_X6_stripFor M x0 x1 = some r) : Met l yX6_stripFor (mm_ws yX6_stripFor cX6_stripFor 4 (Option.some Jvm.ClassFile.FieldType.int)) rm_X6_stripFor (va_Pc [.ref x0, .int x1] (mm_B g A M)) (mm_Ti g A r M) 0 0 A := by
  refine mm_met (g := g) (lv := [(0, .ref x0), (1, .int x1)]) (fun U h => h.2) (by decide +kernel) (Nat.le_of_ble_eq_true rfl) rfl ?_
  intro p e s m args below meth c ls C hr hnm hB hl
  obtain ⟨hR, hK⟩ := hB
  have hx := C.1
  have hb := C.2.1
  suffices hmain : ∀ (H : Heap) (locs : List Loc), mm_R g A M H → va_S A s.heap H locs → W p l e rm_X6_stripFor s m args below meth c H locs 0 0 (MQ below (mm_Ti g A r M) args s 0 0 A) (F0 m 0 ls []) from hmain _ _ hR va_S.rf
  clear hR
  intro H locs hR hS
  unfold ff_X6_stripFor at hf
  refine lv_iload_n hx hb dX6_stripFor_0 rfl (lv_at hl 1 rfl) ?_
  obtain ⟨v1, ev1, hf⟩ := mm_bd hf
  refine mm_callSi (As := [.int x1]) (rest := []) C hR hS hl.1 ss_X6_77 (jj_X6_isShade l g A M x1 v1 ev1) ⟨rfl, rfl, (Nat.le_of_ble_eq_true rfl), (Nat.le_of_ble_eq_true rfl)⟩ rfl (Nat.le_of_ble_eq_true rfl) ⟨Nat.zero_le _, Nat.zero_le _⟩ rfl dX6_stripFor_1 (fun H locs hR hS => ?_)
  refine lv_if_ne (tgt := 9) hx hb dX6_stripFor_4 (by decide) (fun hc => ?_) (fun hc => ?_)
  · have hf := mm_if0 hc hf
    refine lv_aload_n hx hb dX6_stripFor_9 rfl (lv_at hl 0 rfl) ?_
    obtain ⟨v2, ev2, hf⟩ := mm_bd hf
    refine mm_getR C hR fs_X6_10 ev2 dX6_stripFor_10 ?_
    refine lv_iload_n hx hb dX6_stripFor_13 rfl (lv_at hl 1 rfl) ?_
    obtain ⟨u3, eu3, hf⟩ := mm_bd hf
    obtain ⟨v4, ev4, hf⟩ := mm_bd hf
    refine mm_callVi (As := [.int x1]) (rest := []) C hR hS hl.1 vs_X6_199 eu3 (jj_X2_lackOf l g A M v2 x1 v4 ev4) ⟨rfl, rfl, (Nat.le_of_ble_eq_true rfl), (Nat.le_of_ble_eq_true rfl)⟩ rfl (Nat.le_of_ble_eq_true rfl) ⟨Nat.zero_le _, Nat.zero_le _⟩ rfl dX6_stripFor_14 (fun H locs hR hS => ?_)
    refine lv_istore_n (lv' := [(2, .int v4), (0, .ref x0), (1, .int x1)]) hx hb dX6_stripFor_17 rfl hl (by decide) rfl (fun ls hl => ?_)
    refine lv_iload_n hx hb dX6_stripFor_18 rfl (lv_at hl 0 rfl) ?_
    refine lv_if_ne (tgt := 24) hx hb dX6_stripFor_19 (by decide) (fun hc => ?_) (fun hc => ?_)
    · have hf := mm_if0 hc hf
      refine lv_iload_n hx hb dX6_stripFor_24 rfl (lv_at hl 0 rfl) ?_
      refine lv_aload_n hx hb dX6_stripFor_25 rfl (lv_at hl 1 rfl) ?_
      obtain ⟨v5, ev5, hf⟩ := mm_bd hf
      refine mm_getR C hR fs_X6_10 ev5 dX6_stripFor_26 ?_
      obtain ⟨v6, ev6, hf⟩ := mm_bd hf
      refine mm_getR C hR fs_X6_125 ev6 dX6_stripFor_29 ?_
      obtain ⟨v7, ev7, hf⟩ := mm_bd hf
      refine mm_getI C hR fs_X6_162 ev7 dX6_stripFor_32 ?_
      refine lv_imul hx hb dX6_stripFor_35 ?_
      refine lv_iload_n hx hb dX6_stripFor_36 rfl (lv_at hl 0 rfl) ?_
      refine lv_iconst (v := 1) hx hb dX6_stripFor_37 (by decide) ?_
      refine lv_isub hx hb dX6_stripFor_38 ?_
      refine lv_aload_n hx hb dX6_stripFor_39 rfl (lv_at hl 1 rfl) ?_
      obtain ⟨v8, ev8, hf⟩ := mm_bd hf
      refine mm_getR C hR fs_X6_10 ev8 dX6_stripFor_40 ?_
      obtain ⟨v9, ev9, hf⟩ := mm_bd hf
      refine mm_getR C hR fs_X6_125 ev9 dX6_stripFor_43 ?_
      obtain ⟨v10, ev10, hf⟩ := mm_bd hf
      refine mm_getI C hR fs_X6_172 ev10 dX6_stripFor_46 ?_
      refine lv_imul hx hb dX6_stripFor_49 ?_
      refine lv_iadd hx hb dX6_stripFor_50 ?_
      refine lv_istore_n (lv' := [(3, .int ((v4 * v7) + ((v4 - (1 : Int32)) * v10))), (2, .int v4), (0, .ref x0), (1, .int x1)]) hx hb dX6_stripFor_51 rfl hl (by decide) rfl (fun ls hl => ?_)
      refine lv_iload_n hx hb dX6_stripFor_52 rfl (lv_at hl 0 rfl) ?_
      refine lv_sipush (v := 1000) hx hb dX6_stripFor_53 (by decide) ?_
      refine lv_icmp_le (tgt := 64) hx hb dX6_stripFor_56 (by decide) (fun hc => ?_) (fun hc => ?_)
      · have hf := mm_if1 hc hf
        refine lv_iload_n hx hb dX6_stripFor_64 rfl (lv_at hl 0 rfl) ?_
        refine lv_bipush (v := 20) hx hb dX6_stripFor_65 (by decide) ?_
        refine mm_max C hl.1 mw_563 mw_373 mw_9 mc_max (Nat.le_of_ble_eq_true rfl) (Nat.le_of_ble_eq_true rfl) ⟨Nat.zero_le _, Nat.zero_le _⟩ dX6_stripFor_67 ?_
        exact mm_ire C hR hS hr ((Option.some.inj hf)) rfl dX6_stripFor_70
      · have hf := mm_if0 hc hf
        refine lv_bipush (v := -4) hx hb dX6_stripFor_59 (by decide) ?_
        refine lv_goto (tgt := 70) hx hb dX6_stripFor_61 (by decide) ?_
        exact mm_ire C hR hS hr ((Option.some.inj hf)) rfl dX6_stripFor_70
    · have hf := mm_if1 hc hf
      refine lv_iconst (v := 0) hx hb dX6_stripFor_22 (by decide) ?_
      exact mm_ire C hR hS hr ((Option.some.inj hf)) rfl dX6_stripFor_23
  · have hf := mm_if1 hc hf
    refine lv_iconst (v := -1) hx hb dX6_stripFor_7 (by decide) ?_
    exact mm_ire C hR hS hr ((Option.some.inj hf)) rfl dX6_stripFor_8
def ff_X6_ifLaid (M : mm_M) (x0 : Nat) : Option ((Int32 × mm_M)) := Option.bind (mm_gR 6 M x0 1) fun v1 => Option.bind (mm_gR 6 M x0 0) fun v2 => Option.bind (mm_ck 2 M v1) fun u3 => Option.bind (ff_X2_copyFrom M v1 v2) fun M4 => Option.bind (mm_gR 6 M4 x0 1) fun v5 => Option.bind (mm_ck 2 M4 v5) fun u6 => Option.bind (ff_X2_layEmptyCells M4 v5) (mm_u2 fun v7 M8 => Option.bind (mm_gR 6 M8 x0 1) fun v9 => Option.bind (mm_ck 2 M8 v9) fun u10 => Option.bind (ff_X2_sumOfDifferences M8 v9) fun v11 => some (v11, M8))
def rm_X6_ifLaid : Room := { frames := 6, cells := 0, slots := 0, locals := 144 }
set_option maxHeartbeats 4000000 in
set_option maxRecDepth 100000 in
theorem jj_X6_ifLaid (l : Launch) (g : mm_G) (A : Nat → Prop) (M : mm_M) (x0 : Nat) (r : Int32) (M2 : mm_M) (hf : ff_X6_ifLaid M x0 = some (r, M2)) : Met l yX6_ifLaid (mm_ws yX6_ifLaid cX6_ifLaid 1 (Option.some Jvm.ClassFile.FieldType.int)) rm_X6_ifLaid (va_Pc [.ref x0] (mm_B g A M)) (mm_Ti g A r M2) 0 0 A := by
  refine mm_met (g := g) (lv := [(0, .ref x0)]) (fun U h => h.2) (by decide +kernel) (Nat.le_of_ble_eq_true rfl) rfl ?_
  intro p e s m args below meth c ls C hr hnm hB hl
  obtain ⟨hR, hK⟩ := hB
  have hx := C.1
  have hb := C.2.1
  suffices hmain : ∀ (H : Heap) (locs : List Loc), mm_R g A M H → va_S A s.heap H locs → W p l e rm_X6_ifLaid s m args below meth c H locs 0 0 (MQ below (mm_Ti g A r M2) args s 0 0 A) (F0 m 0 ls []) from hmain _ _ hR va_S.rf
  clear hR
  intro H locs hR hS
  unfold ff_X6_ifLaid at hf
  refine lv_aload_n hx hb dX6_ifLaid_0 rfl (lv_at hl 0 rfl) ?_
  obtain ⟨v1, ev1, hf⟩ := mm_bd hf
  refine mm_getR C hR fs_X6_16 ev1 dX6_ifLaid_1 ?_
  refine lv_aload_n hx hb dX6_ifLaid_4 rfl (lv_at hl 0 rfl) ?_
  obtain ⟨v2, ev2, hf⟩ := mm_bd hf
  refine mm_getR C hR fs_X6_10 ev2 dX6_ifLaid_5 ?_
  obtain ⟨u3, eu3, hf⟩ := mm_bd hf
  obtain ⟨M4, eM4, hf⟩ := mm_bd hf
  refine mm_callVv (As := [.ref v2]) (rest := []) C hR hS hl.1 vs_X6_207 eu3 (jj_X2_copyFrom l g A M v1 v2 M4 eM4) ⟨rfl, rfl, (Nat.le_of_ble_eq_true rfl), (Nat.le_of_ble_eq_true rfl)⟩ rfl (Nat.le_of_ble_eq_true rfl) ⟨Nat.zero_le _, Nat.zero_le _⟩ rfl dX6_ifLaid_8 (fun H locs hR hS => ?_)
  refine lv_aload_n hx hb dX6_ifLaid_11 rfl (lv_at hl 0 rfl) ?_
  obtain ⟨v5, ev5, hf⟩ := mm_bd hf
  refine mm_getR C hR fs_X6_16 ev5 dX6_ifLaid_12 ?_
  obtain ⟨u6, eu6, hf⟩ := mm_bd hf
  obtain ⟨⟨v7, M8⟩, ev7, hf⟩ := mm_bd hf
  have hf := mm_u2e hf
  refine mm_callVi (As := []) (rest := []) C hR hS hl.1 vs_X6_190 eu6 (jj_X2_layEmptyCells l g A M4 v5 v7 M8 ev7) ⟨rfl, rfl, (Nat.le_of_ble_eq_true rfl), (Nat.le_of_ble_eq_true rfl)⟩ rfl (Nat.le_of_ble_eq_true rfl) ⟨Nat.zero_le _, Nat.zero_le _⟩ rfl dX6_ifLaid_15 (fun H locs hR hS => ?_)
  refine lv_pop hx hb dX6_ifLaid_18 rfl ?_
  refine lv_aload_n hx hb dX6_ifLaid_19 rfl (lv_at hl 0 rfl) ?_
  obtain ⟨v9, ev9, hf⟩ := mm_bd hf
  refine mm_getR C hR fs_X6_16 ev9 dX6_ifLaid_20 ?_
  obtain ⟨u10, eu10, hf⟩ := mm_bd hf
  obtain ⟨v11, ev11, hf⟩ := mm_bd hf
  refine mm_callVi (As := []) (rest := []) C hR hS hl.1 vs_X6_210 eu10 (jj_X2_sumOfDifferences l g A M8 v9 v11 ev11) ⟨rfl, rfl, (Nat.le_of_ble_eq_true rfl), (Nat.le_of_ble_eq_true rfl)⟩ rfl (Nat.le_of_ble_eq_true rfl) ⟨Nat.zero_le _, Nat.zero_le _⟩ rfl dX6_ifLaid_23 (fun H locs hR hS => ?_)
  exact mm_ire C hR hS hr ((mm_pe hf).1) (mm_pe hf).2 dX6_ifLaid_26
def ff_X6_type (M : mm_M) (x0 : Nat) (x1 : Int32) : Option ((Int32 × mm_M)) := Option.bind (ff_X6_isWithin M x1 (32 : Int32) (126 : Int32)) fun v1 => if v1 = (0 : Int32) then (some ((-1 : Int32), M)) else (Option.bind (mm_gR 6 M x0 3) fun v2 => Option.bind (mm_gI 5 M v2 1) fun v3 => if v3 < (80 : Int32) then (Option.bind (mm_gR 6 M x0 3) fun v4 => Option.bind (mm_ck 5 M v4) fun u5 => Option.bind (ff_X5_append M v4 x1) fun M6 => Option.bind (mm_gR 6 M6 x0 3) fun v7 => Option.bind (mm_gI 5 M6 v7 1) fun v8 => some (v8, M6)) else (some ((-3 : Int32), M)))
def rm_X6_type : Room := { frames := 1, cells := 0, slots := 0, locals := 22 }
set_option maxHeartbeats 4000000 in
set_option maxRecDepth 100000 in
theorem jj_X6_type (l : Launch) (g : mm_G) (A : Nat → Prop) (M : mm_M) (x0 : Nat) (x1 : Int32) (r : Int32) (M2 : mm_M) (hf : ff_X6_type M x0 x1 = some (r, M2)) : Met l yX6_type (mm_ws yX6_type cX6_type 2 (Option.some Jvm.ClassFile.FieldType.int)) rm_X6_type (va_Pc [.ref x0, .int x1] (mm_B g A M)) (mm_Ti g A r M2) 0 0 A := by
  refine mm_met (g := g) (lv := [(0, .ref x0), (1, .int x1)]) (fun U h => h.2) (by decide +kernel) (Nat.le_of_ble_eq_true rfl) rfl ?_
  intro p e s m args below meth c ls C hr hnm hB hl
  obtain ⟨hR, hK⟩ := hB
  have hx := C.1
  have hb := C.2.1
  suffices hmain : ∀ (H : Heap) (locs : List Loc), mm_R g A M H → va_S A s.heap H locs → W p l e rm_X6_type s m args below meth c H locs 0 0 (MQ below (mm_Ti g A r M2) args s 0 0 A) (F0 m 0 ls []) from hmain _ _ hR va_S.rf
  clear hR
  intro H locs hR hS
  unfold ff_X6_type at hf
  refine lv_iload_n hx hb dX6_type_0 rfl (lv_at hl 1 rfl) ?_
  refine lv_bipush (v := 32) hx hb dX6_type_1 (by decide) ?_
  refine lv_bipush (v := 126) hx hb dX6_type_3 (by decide) ?_
  obtain ⟨v1, ev1, hf⟩ := mm_bd hf
  refine mm_callSi (As := [.int x1, .int (32 : Int32), .int (126 : Int32)]) (rest := []) C hR hS hl.1 ss_X6_33 (jj_X6_isWithin l g A M x1 (32 : Int32) (126 : Int32) v1 ev1) ⟨rfl, rfl, (Nat.le_of_ble_eq_true rfl), (Nat.le_of_ble_eq_true rfl)⟩ rfl (Nat.le_of_ble_eq_true rfl) ⟨Nat.zero_le _, Nat.zero_le _⟩ rfl dX6_type_5 (fun H locs hR hS => ?_)
  refine lv_if_ne (tgt := 13) hx hb dX6_type_8 (by decide) (fun hc => ?_) (fun hc => ?_)
  · have hf := mm_if0 hc hf
    refine lv_aload_n hx hb dX6_type_13 rfl (lv_at hl 0 rfl) ?_
    obtain ⟨v2, ev2, hf⟩ := mm_bd hf
    refine mm_getR C hR fs_X6_29 ev2 dX6_type_14 ?_
    obtain ⟨v3, ev3, hf⟩ := mm_bd hf
    refine mm_getI C hR fs_X6_213 ev3 dX6_type_17 ?_
    refine lv_bipush (v := 80) hx hb dX6_type_20 (by decide) ?_
    refine lv_icmp_lt (tgt := 28) hx hb dX6_type_22 (by decide) (fun hc => ?_) (fun hc => ?_)
    · have hf := mm_if1 hc hf
      refine lv_aload_n hx hb dX6_type_28 rfl (lv_at hl 0 rfl) ?_
      obtain ⟨v4, ev4, hf⟩ := mm_bd hf
      refine mm_getR C hR fs_X6_29 ev4 dX6_type_29 ?_
      refine lv_iload_n hx hb dX6_type_32 rfl (lv_at hl 1 rfl) ?_
      obtain ⟨u5, eu5, hf⟩ := mm_bd hf
      obtain ⟨M6, eM6, hf⟩ := mm_bd hf
      refine mm_callVv (As := [.int x1]) (rest := []) C hR hS hl.1 vs_X6_214 eu5 (jj_X5_append l g A M v4 x1 M6 eM6) ⟨rfl, rfl, (Nat.le_of_ble_eq_true rfl), (Nat.le_of_ble_eq_true rfl)⟩ rfl (Nat.le_of_ble_eq_true rfl) ⟨Nat.zero_le _, Nat.zero_le _⟩ rfl dX6_type_33 (fun H locs hR hS => ?_)
      refine lv_aload_n hx hb dX6_type_36 rfl (lv_at hl 0 rfl) ?_
      obtain ⟨v7, ev7, hf⟩ := mm_bd hf
      refine mm_getR C hR fs_X6_29 ev7 dX6_type_37 ?_
      obtain ⟨v8, ev8, hf⟩ := mm_bd hf
      refine mm_getI C hR fs_X6_213 ev8 dX6_type_40 ?_
      exact mm_ire C hR hS hr ((mm_pe hf).1) (mm_pe hf).2 dX6_type_43
    · have hf := mm_if0 hc hf
      refine lv_bipush (v := -3) hx hb dX6_type_25 (by decide) ?_
      exact mm_ire C hR hS hr ((mm_pe hf).1) (mm_pe hf).2 dX6_type_27
  · have hf := mm_if1 hc hf
    refine lv_iconst (v := -1) hx hb dX6_type_11 (by decide) ?_
    exact mm_ire C hR hS hr ((mm_pe hf).1) (mm_pe hf).2 dX6_type_12
def ff_X6_clearText (M : mm_M) (x0 : Nat) : Option ((Int32 × mm_M)) := Option.bind (mm_gR 6 M x0 3) fun v1 => Option.bind (mm_gI 5 M v1 1) fun v2 => Option.bind (mm_gR 6 M x0 3) fun v3 => Option.bind (mm_pI 5 M v3 1 (0 : Int32)) fun M4 => some (v2, M4)
def rm_X6_clearText : Room := { frames := 0, cells := 0, slots := 0, locals := 0 }
set_option maxHeartbeats 4000000 in
set_option maxRecDepth 100000 in
theorem jj_X6_clearText (l : Launch) (g : mm_G) (A : Nat → Prop) (M : mm_M) (x0 : Nat) (r : Int32) (M2 : mm_M) (hf : ff_X6_clearText M x0 = some (r, M2)) : Met l yX6_clearText (mm_ws yX6_clearText cX6_clearText 2 (Option.some Jvm.ClassFile.FieldType.int)) rm_X6_clearText (va_Pc [.ref x0] (mm_B g A M)) (mm_Ti g A r M2) 0 0 A := by
  refine mm_met (g := g) (lv := [(0, .ref x0)]) (fun U h => h.2) (by decide +kernel) (Nat.le_of_ble_eq_true rfl) rfl ?_
  intro p e s m args below meth c ls C hr hnm hB hl
  obtain ⟨hR, hK⟩ := hB
  have hx := C.1
  have hb := C.2.1
  suffices hmain : ∀ (H : Heap) (locs : List Loc), mm_R g A M H → va_S A s.heap H locs → W p l e rm_X6_clearText s m args below meth c H locs 0 0 (MQ below (mm_Ti g A r M2) args s 0 0 A) (F0 m 0 ls []) from hmain _ _ hR va_S.rf
  clear hR
  intro H locs hR hS
  unfold ff_X6_clearText at hf
  refine lv_aload_n hx hb dX6_clearText_0 rfl (lv_at hl 0 rfl) ?_
  obtain ⟨v1, ev1, hf⟩ := mm_bd hf
  refine mm_getR C hR fs_X6_29 ev1 dX6_clearText_1 ?_
  obtain ⟨v2, ev2, hf⟩ := mm_bd hf
  refine mm_getI C hR fs_X6_213 ev2 dX6_clearText_4 ?_
  refine lv_istore_n (lv' := [(1, .int v2), (0, .ref x0)]) hx hb dX6_clearText_7 rfl hl (by decide) rfl (fun ls hl => ?_)
  refine lv_aload_n hx hb dX6_clearText_8 rfl (lv_at hl 1 rfl) ?_
  obtain ⟨v3, ev3, hf⟩ := mm_bd hf
  refine mm_getR C hR fs_X6_29 ev3 dX6_clearText_9 ?_
  refine lv_iconst (v := 0) hx hb dX6_clearText_12 (by decide) ?_
  obtain ⟨M4, eM4, hf⟩ := mm_bd hf
  refine mm_putI C hR hS ps_X6_213 eM4 dX6_clearText_13 (fun H locs hR hS => ?_)
  refine lv_iload_n hx hb dX6_clearText_16 rfl (lv_at hl 0 rfl) ?_
  exact mm_ire C hR hS hr ((mm_pe hf).1) (mm_pe hf).2 dX6_clearText_17
def ff_X6_fault (M : mm_M) (x0 : Nat) : Option Int32 := Option.bind (mm_gR 6 M x0 3) fun v1 => Option.bind (mm_ck 5 M v1) fun u2 => Option.bind (ff_X5_firstFaultOrNone M v1) fun v3 => if v3 = (-1 : Int32) then (some (-4 : Int32)) else (some v3)
def rm_X6_fault : Room := { frames := 2, cells := 0, slots := 0, locals := 44 }
set_option maxHeartbeats 4000000 in
set_option maxRecDepth 100000 in
theorem jj_X6_fault (l : Launch) (g : mm_G) (A : Nat → Prop) (M : mm_M) (x0 : Nat) (r : Int32) (hf : ff_X6_fault M x0 = some r) : Met l yX6_fault (mm_ws yX6_fault cX6_fault 2 (Option.some Jvm.ClassFile.FieldType.int)) rm_X6_fault (va_Pc [.ref x0] (mm_B g A M)) (mm_Ti g A r M) 0 0 A := by
  refine mm_met (g := g) (lv := [(0, .ref x0)]) (fun U h => h.2) (by decide +kernel) (Nat.le_of_ble_eq_true rfl) rfl ?_
  intro p e s m args below meth c ls C hr hnm hB hl
  obtain ⟨hR, hK⟩ := hB
  have hx := C.1
  have hb := C.2.1
  suffices hmain : ∀ (H : Heap) (locs : List Loc), mm_R g A M H → va_S A s.heap H locs → W p l e rm_X6_fault s m args below meth c H locs 0 0 (MQ below (mm_Ti g A r M) args s 0 0 A) (F0 m 0 ls []) from hmain _ _ hR va_S.rf
  clear hR
  intro H locs hR hS
  unfold ff_X6_fault at hf
  refine lv_aload_n hx hb dX6_fault_0 rfl (lv_at hl 0 rfl) ?_
  obtain ⟨v1, ev1, hf⟩ := mm_bd hf
  refine mm_getR C hR fs_X6_29 ev1 dX6_fault_1 ?_
  obtain ⟨u2, eu2, hf⟩ := mm_bd hf
  obtain ⟨v3, ev3, hf⟩ := mm_bd hf
  refine mm_callVi (As := []) (rest := []) C hR hS hl.1 vs_X6_62 eu2 (jj_X5_firstFaultOrNone l g A M v1 v3 ev3) ⟨rfl, rfl, (Nat.le_of_ble_eq_true rfl), (Nat.le_of_ble_eq_true rfl)⟩ rfl (Nat.le_of_ble_eq_true rfl) ⟨Nat.zero_le _, Nat.zero_le _⟩ rfl dX6_fault_4 (fun H locs hR hS => ?_)
  refine lv_istore_n (lv' := [(1, .int v3), (0, .ref x0)]) hx hb dX6_fault_7 rfl hl (by decide) rfl (fun ls hl => ?_)
  refine lv_iload_n hx hb dX6_fault_8 rfl (lv_at hl 0 rfl) ?_
  refine lv_iconst (v := -1) hx hb dX6_fault_9 (by decide) ?_
  refine lv_icmp_ne (tgt := 18) hx hb dX6_fault_10 (by decide) (fun hc => ?_) (fun hc => ?_)
  · have hf := mm_if0 hc hf
    refine lv_iload_n hx hb dX6_fault_18 rfl (lv_at hl 0 rfl) ?_
    exact mm_ire C hR hS hr ((Option.some.inj hf)) rfl dX6_fault_19
  · have hf := mm_if1 hc hf
    refine lv_bipush (v := -4) hx hb dX6_fault_13 (by decide) ?_
    refine lv_goto (tgt := 19) hx hb dX6_fault_15 (by decide) ?_
    exact mm_ire C hR hS hr ((Option.some.inj hf)) rfl dX6_fault_19
