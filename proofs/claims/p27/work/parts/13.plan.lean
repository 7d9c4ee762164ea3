def ff_X1_begin (M : mm_M) (x0 : Nat) (x1 : Int32) (x2 : Int32) : Option mm_M := Option.bind (mm_pI 1 M x0 4 x1) fun M1 => Option.bind (mm_pI 1 M1 x0 5 x2) fun M2 => Option.bind (mm_gR 1 M2 x0 0) fun v3 => Option.bind (ff_J7_fill_53178 M2 v3 (50 : Int32)) fun M4 => some M4
def rm_X1_begin : Room := { frames := 1, cells := 0, slots := 0, locals := 23 }
set_option maxHeartbeats 4000000 in
set_option maxRecDepth 100000 in
theorem jj_X1_begin (l : Launch) (g : mm_G) (A : Nat → Prop) (M : mm_M) (x0 : Nat) (x1 : Int32) (x2 : Int32) (M2 : mm_M) (hf : ff_X1_begin M x0 x1 x2 = some M2) : Met l yX1_begin (mm_ws yX1_begin cX1_begin 3 (Option.none : Option Jvm.ClassFile.FieldType)) rm_X1_begin (va_Pc [.ref x0, .int x1, .int x2] (mm_B g A M)) (mm_Tv g A M2) 0 0 A := by
  refine mm_met (g := g) (lv := [(0, .ref x0), (1, .int x1), (2, .int x2)]) (fun U h => h.2) (by decide +kernel) (Nat.le_of_ble_eq_true rfl) rfl ?_
  intro p e s m args below meth c ls C hr hnm hB hl
  obtain ⟨hR, hK⟩ := hB
  have hx := C.1
  have hb := C.2.1
  suffices hmain : ∀ (H : Heap) (locs : List Loc), mm_R g A M H → va_S A s.heap H locs → W p l e rm_X1_begin s m args below meth c H locs 0 0 (MQ below (mm_Tv g A M2) args s 0 0 A) (F0 m 0 ls []) from hmain _ _ hR va_S.rf
  clear hR
  intro H locs hR hS
  unfold ff_X1_begin at hf
  refine lv_aload_n hx hb dX1_begin_0 rfl (lv_at hl 0 rfl) ?_
  refine lv_iload_n hx hb dX1_begin_1 rfl (lv_at hl 1 rfl) ?_
  obtain ⟨M1, eM1, hf⟩ := mm_bd hf
  refine mm_putI C hR hS ps_X1_29 eM1 dX1_begin_2 (fun H locs hR hS => ?_)
  refine lv_aload_n hx hb dX1_begin_5 rfl (lv_at hl 0 rfl) ?_
  refine lv_iload_n hx hb dX1_begin_6 rfl (lv_at hl 2 rfl) ?_
  obtain ⟨M2, eM2, hf⟩ := mm_bd hf
  refine mm_putI C hR hS ps_X1_32 eM2 dX1_begin_7 (fun H locs hR hS => ?_)
  refine lv_aload_n hx hb dX1_begin_10 rfl (lv_at hl 0 rfl) ?_
  obtain ⟨v3, ev3, hf⟩ := mm_bd hf
  refine mm_getR C hR fs_X1_9 ev3 dX1_begin_11 ?_
  refine lv_bipush (v := 50) hx hb dX1_begin_14 (by decide) ?_
  obtain ⟨M4, eM4, hf⟩ := mm_bd hf
  refine mm_callSv (As := [.ref v3, .int (50 : Int32)]) (rest := []) C hR hS hl.1 ss_X1_35 (jj_J7_fill_53178 l g A M2 v3 (50 : Int32) M4 eM4) ⟨rfl, rfl, (Nat.le_of_ble_eq_true rfl), (Nat.le_of_ble_eq_true rfl)⟩ rfl (Nat.le_of_ble_eq_true rfl) ⟨Nat.zero_le _, Nat.zero_le _⟩ rfl dX1_begin_16 (fun H locs hR hS => ?_)
  exact mm_vre C hR hS hr (Option.some.inj hf) dX1_begin_19
def ff_X1_init (sz : Nat) (M : mm_M) (x0 : Nat) : Option mm_M := Option.bind (mm_nI 0 144 sz M) fun M1 => Option.bind (mm_pR 1 M1 x0 0 sz) fun M2 => Option.bind (mm_nI 0 8 (sz + 1) M2) fun M3 => Option.bind (mm_pR 1 M3 x0 1 (sz + 1)) fun M4 => Option.bind (mm_pI 1 M4 x0 2 (1 : Int32)) fun M5 => Option.bind (mm_pI 1 M5 x0 3 (0 : Int32)) fun M6 => Option.bind (mm_ck 1 M6 x0) fun u7 => Option.bind (ff_X1_begin M6 x0 (6 : Int32) (4 : Int32)) fun M8 => some M8
def rm_X1_init : Room := { frames := 2, cells := 2, slots := 152, locals := 45 }
set_option maxHeartbeats 4000000 in
set_option maxRecDepth 100000 in
theorem jj_X1_init (l : Launch) (g : mm_G) (A : Nat → Prop) (sz : Nat) (hAn : ∀ q, sz ≤ q → A q) (M : mm_M) (x0 : Nat) (M2 : mm_M) (hf : ff_X1_init sz M x0 = some M2) : Met l yX1_init (mm_ws yX1_init cX1_init 1 (Option.none : Option Jvm.ClassFile.FieldType)) rm_X1_init (va_Pc [.ref x0] (fun U => U.heap.size = sz ∧ mm_B g A M U)) (mm_Tz g A M2 (sz + 2)) 2 152 A := by
  refine mm_met (g := g) (lv := [(0, .ref x0)]) (fun U h => h.2.2) (by decide +kernel) (Nat.le_of_ble_eq_true rfl) rfl ?_
  intro p e s m args below meth c ls C hr hnm hB hl
  obtain ⟨hs0, hR, hK⟩ := hB
  have hz : sz ≤ s.heap.size := Nat.le_of_eq hs0.symm
  have hx := C.1
  have hb := C.2.1
  suffices hmain : ∀ (H : Heap) (locs : List Loc), mm_R g A M H → va_S A s.heap H locs → sz ≤ H.size → W p l e rm_X1_init s m args below meth c H locs 0 0 (MQ below (mm_Tz g A M2 (sz + 2)) args s 2 152 A) (F0 m 0 ls []) from hmain _ _ hR va_S.rf hz
  clear hR hz
  intro H locs hR hS hz
  unfold ff_X1_init at hf
  refine lv_aload_n hx hb dX1_init_0 rfl (lv_at hl 0 rfl) ?_
  refine mm_obj C hl.1 mw_30 mw_17 oc_i (Nat.le_of_ble_eq_true rfl) (Nat.le_of_ble_eq_true rfl) dX1_init_1 ?_
  refine lv_aload_n hx hb dX1_init_4 rfl (lv_at hl 0 rfl) ?_
  refine lv_sipush (v := 144) hx hb dX1_init_5 (by decide) ?_
  obtain ⟨M1, eM1, hf⟩ := mm_bd hf
  refine mm_newAx (z := sz) (cells := 0) (slots := 0) (ty := .int) (N' := 144) C hR hS hs0 hAn hz rfl (sz + 1) 1 144 rfl rfl rfl rfl mw_63 (mm_ht0 C.2.2.2.2.2.1) rfl (by decide) (by decide) (Nat.le_of_ble_eq_true rfl) (Nat.le_of_ble_eq_true rfl) (Nat.le_of_ble_eq_true rfl) eM1 dX1_init_8 (fun H hz hR hS => ?_)
  obtain ⟨M2, eM2, hf⟩ := mm_bd hf
  refine mm_putRz C hR hS hnm ps_X1_9 (fun v => ⟨rfl, rfl⟩) eM2 dX1_init_10 hz (fun H locs hz hR hS => ?_)
  refine lv_aload_n hx hb dX1_init_13 rfl (lv_at hl 0 rfl) ?_
  refine lv_bipush (v := 8) hx hb dX1_init_14 (by decide) ?_
  obtain ⟨M3, eM3, hf⟩ := mm_bd hf
  refine mm_newAx (z := (sz + 1)) (cells := 1) (slots := 144) (ty := .int) (N' := 8) C hR hS hs0 hAn hz rfl (sz + 2) 2 152 rfl rfl rfl rfl mw_63 (mm_ht0 C.2.2.2.2.2.1) rfl (by decide) (by decide) (Nat.le_of_ble_eq_true rfl) (Nat.le_of_ble_eq_true rfl) (Nat.le_of_ble_eq_true rfl) eM3 dX1_init_16 (fun H hz hR hS => ?_)
  obtain ⟨M4, eM4, hf⟩ := mm_bd hf
  refine mm_putRz C hR hS hnm ps_X1_15 (fun v => ⟨rfl, rfl⟩) eM4 dX1_init_18 hz (fun H locs hz hR hS => ?_)
  refine lv_aload_n hx hb dX1_init_21 rfl (lv_at hl 0 rfl) ?_
  refine lv_iconst (v := 1) hx hb dX1_init_22 (by decide) ?_
  obtain ⟨M5, eM5, hf⟩ := mm_bd hf
  refine mm_putIz C hR hS ps_X1_18 eM5 dX1_init_23 hz (fun H locs hz hR hS => ?_)
  refine lv_aload_n hx hb dX1_init_26 rfl (lv_at hl 0 rfl) ?_
  refine lv_iconst (v := 0) hx hb dX1_init_27 (by decide) ?_
  obtain ⟨M6, eM6, hf⟩ := mm_bd hf
  refine mm_putIz C hR hS ps_X1_22 eM6 dX1_init_28 hz (fun H locs hz hR hS => ?_)
  refine lv_aload_n hx hb dX1_init_31 rfl (lv_at hl 0 rfl) ?_
  refine lv_bipush (v := 6) hx hb dX1_init_32 (by decide) ?_
  refine lv_iconst (v := 4) hx hb dX1_init_34 (by decide) ?_
  obtain ⟨u7, eu7, hf⟩ := mm_bd hf
  obtain ⟨M8, eM8, hf⟩ := mm_bd hf
  refine mm_callVvz (As := [.int (6 : Int32), .int (4 : Int32)]) (rest := []) C hR hS hl.1 vs_X1_25 eu7 (jj_X1_begin l g A M6 x0 (6 : Int32) (4 : Int32) M8 eM8) ⟨rfl, rfl, (Nat.le_of_ble_eq_true rfl), (Nat.le_of_ble_eq_true rfl)⟩ rfl (Nat.le_of_ble_eq_true rfl) ⟨(Nat.le_of_ble_eq_true rfl), (Nat.le_of_ble_eq_true rfl)⟩ rfl dX1_init_35 hz (fun H locs hz hR hS => ?_)
  exact mm_vrz C hR hS hr (Option.some.inj hf) hs0 hz rfl dX1_init_38
def ff_X1_copyFrom (M : mm_M) (x0 : Nat) (x1 : Nat) : Option mm_M := Option.bind (mm_gR 1 M x1 0) fun v1 => Option.bind (mm_gR 1 M x0 0) fun v2 => Option.bind (mm_gR 1 M x0 0) fun v3 => Option.bind (mm_ln M v3) fun v4 => Option.bind (mm_cp M v1 (0 : Int32) v2 (0 : Int32) v4) fun M5 => Option.bind (mm_gR 1 M5 x1 1) fun v6 => Option.bind (mm_gR 1 M5 x0 1) fun v7 => Option.bind (mm_gR 1 M5 x0 1) fun v8 => Option.bind (mm_ln M5 v8) fun v9 => Option.bind (mm_cp M5 v6 (0 : Int32) v7 (0 : Int32) v9) fun M10 => Option.bind (mm_gI 1 M10 x1 2) fun v11 => Option.bind (mm_pI 1 M10 x0 2 v11) fun M12 => Option.bind (mm_gI 1 M12 x1 3) fun v13 => Option.bind (mm_pI 1 M12 x0 3 v13) fun M14 => Option.bind (mm_gI 1 M14 x1 4) fun v15 => Option.bind (mm_pI 1 M14 x0 4 v15) fun M16 => Option.bind (mm_gI 1 M16 x1 5) fun v17 => Option.bind (mm_pI 1 M16 x0 5 v17) fun M18 => some M18
def rm_X1_copyFrom : Room := { frames := 1, cells := 0, slots := 0, locals := 26 }
set_option maxHeartbeats 4000000 in
set_option maxRecDepth 100000 in
theorem jj_X1_copyFrom (l : Launch) (g : mm_G) (A : Nat → Prop) (M : mm_M) (x0 : Nat) (x1 : Nat) (M2 : mm_M) (hf : ff_X1_copyFrom M x0 x1 = some M2) : Met l yX1_copyFrom (mm_ws yX1_copyFrom cX1_copyFrom 2 (Option.none : Option Jvm.ClassFile.FieldType)) rm_X1_copyFrom (va_Pc [.ref x0, .ref x1] (mm_B g A M)) (mm_Tv g A M2) 0 0 A := by
  refine mm_met (g := g) (lv := [(0, .ref x0), (1, .ref x1)]) (fun U h => h.2) (by decide +kernel) (Nat.le_of_ble_eq_true rfl) rfl ?_
  intro p e s m args below meth c ls C hr hnm hB hl
  obtain ⟨hR, hK⟩ := hB
  have hx := C.1
  have hb := C.2.1
  suffices hmain : ∀ (H : Heap) (locs : List Loc), mm_R g A M H → va_S A s.heap H locs → W p l e rm_X1_copyFrom s m args below meth c H locs 0 0 (MQ below (mm_Tv g A M2) args s 0 0 A) (F0 m 0 ls []) from hmain _ _ hR va_S.rf
  clear hR
  intro H locs hR hS
  unfold ff_X1_copyFrom at hf
  refine lv_aload_n hx hb dX1_copyFrom_0 rfl (lv_at hl 1 rfl) ?_
  obtain ⟨v1, ev1, hf⟩ := mm_bd hf
  refine mm_getR C hR fs_X1_9 ev1 dX1_copyFrom_1 ?_
  refine lv_iconst (v := 0) hx hb dX1_copyFrom_4 (by decide) ?_
  refine lv_aload_n hx hb dX1_copyFrom_5 rfl (lv_at hl 0 rfl) ?_
  obtain ⟨v2, ev2, hf⟩ := mm_bd hf
  refine mm_getR C hR fs_X1_9 ev2 dX1_copyFrom_6 ?_
  refine lv_iconst (v := 0) hx hb dX1_copyFrom_9 (by decide) ?_
  refine lv_aload_n hx hb dX1_copyFrom_10 rfl (lv_at hl 0 rfl) ?_
  obtain ⟨v3, ev3, hf⟩ := mm_bd hf
  refine mm_getR C hR fs_X1_9 ev3 dX1_copyFrom_11 ?_
  obtain ⟨v4, ev4, hf⟩ := mm_bd hf
  refine mm_alen C hR ev4 dX1_copyFrom_14 ?_
  obtain ⟨M5, eM5, hf⟩ := mm_bd hf
  refine mm_copy C hR hS hl.1 mw_226 mw_228 mw_227 mw_10 eM5 (Nat.le_of_ble_eq_true rfl) (Nat.le_of_ble_eq_true rfl) dX1_copyFrom_15 (fun H locs hR hS => ?_)
  refine lv_aload_n hx hb dX1_copyFrom_18 rfl (lv_at hl 1 rfl) ?_
  obtain ⟨v6, ev6, hf⟩ := mm_bd hf
  refine mm_getR C hR fs_X1_15 ev6 dX1_copyFrom_19 ?_
  refine lv_iconst (v := 0) hx hb dX1_copyFrom_22 (by decide) ?_
  refine lv_aload_n hx hb dX1_copyFrom_23 rfl (lv_at hl 0 rfl) ?_
  obtain ⟨v7, ev7, hf⟩ := mm_bd hf
  refine mm_getR C hR fs_X1_15 ev7 dX1_copyFrom_24 ?_
  refine lv_iconst (v := 0) hx hb dX1_copyFrom_27 (by decide) ?_
  refine lv_aload_n hx hb dX1_copyFrom_28 rfl (lv_at hl 0 rfl) ?_
  obtain ⟨v8, ev8, hf⟩ := mm_bd hf
  refine mm_getR C hR fs_X1_15 ev8 dX1_copyFrom_29 ?_
  obtain ⟨v9, ev9, hf⟩ := mm_bd hf
  refine mm_alen C hR ev9 dX1_copyFrom_32 ?_
  obtain ⟨M10, eM10, hf⟩ := mm_bd hf
  refine mm_copy C hR hS hl.1 mw_226 mw_228 mw_227 mw_10 eM10 (Nat.le_of_ble_eq_true rfl) (Nat.le_of_ble_eq_true rfl) dX1_copyFrom_33 (fun H locs hR hS => ?_)
  refine lv_aload_n hx hb dX1_copyFrom_36 rfl (lv_at hl 0 rfl) ?_
  refine lv_aload_n hx hb dX1_copyFrom_37 rfl (lv_at hl 1 rfl) ?_
  obtain ⟨v11, ev11, hf⟩ := mm_bd hf
  refine mm_getI C hR fs_X1_18 ev11 dX1_copyFrom_38 ?_
  obtain ⟨M12, eM12, hf⟩ := mm_bd hf
  refine mm_putI C hR hS ps_X1_18 eM12 dX1_copyFrom_41 (fun H locs hR hS => ?_)
  refine lv_aload_n hx hb dX1_copyFrom_44 rfl (lv_at hl 0 rfl) ?_
  refine lv_aload_n hx hb dX1_copyFrom_45 rfl (lv_at hl 1 rfl) ?_
  obtain ⟨v13, ev13, hf⟩ := mm_bd hf
  refine mm_getI C hR fs_X1_22 ev13 dX1_copyFrom_46 ?_
  obtain ⟨M14, eM14, hf⟩ := mm_bd hf
  refine mm_putI C hR hS ps_X1_22 eM14 dX1_copyFrom_49 (fun H locs hR hS => ?_)
  refine lv_aload_n hx hb dX1_copyFrom_52 rfl (lv_at hl 0 rfl) ?_
  refine lv_aload_n hx hb dX1_copyFrom_53 rfl (lv_at hl 1 rfl) ?_
  obtain ⟨v15, ev15, hf⟩ := mm_bd hf
  refine mm_getI C hR fs_X1_29 ev15 dX1_copyFrom_54 ?_
  obtain ⟨M16, eM16, hf⟩ := mm_bd hf
  refine mm_putI C hR hS ps_X1_29 eM16 dX1_copyFrom_57 (fun H locs hR hS => ?_)
  refine lv_aload_n hx hb dX1_copyFrom_60 rfl (lv_at hl 0 rfl) ?_
  refine lv_aload_n hx hb dX1_copyFrom_61 rfl (lv_at hl 1 rfl) ?_
  obtain ⟨v17, ev17, hf⟩ := mm_bd hf
  refine mm_getI C hR fs_X1_32 ev17 dX1_copyFrom_62 ?_
  obtain ⟨M18, eM18, hf⟩ := mm_bd hf
  refine mm_putI C hR hS ps_X1_32 eM18 dX1_copyFrom_65 (fun H locs hR hS => ?_)
  exact mm_vre C hR hS hr (Option.some.inj hf) dX1_copyFrom_68
def ff_X1_takePattern (M : mm_M) (x0 : Nat) (x1 : Nat) : Option ((Int32 × mm_M)) := Option.bind (mm_gR 1 M x0 1) fun v1 => Option.bind (mm_ck 5 M x1) fun u2 => Option.bind (ff_X5_readShades M x1 v1) (mm_u2 fun v3 M4 => Option.bind (mm_pI 1 M4 x0 2 v3) fun M5 => Option.bind (mm_gI 1 M5 x0 2) fun v6 => some (v6, M5))
def rm_X1_takePattern : Room := { frames := 2, cells := 0, slots := 0, locals := 45 }
set_option maxHeartbeats 4000000 in
set_option maxRecDepth 100000 in
theorem jj_X1_takePattern (l : Launch) (g : mm_G) (A : Nat → Prop) (M : mm_M) (x0 : Nat) (x1 : Nat) (r : Int32) (M2 : mm_M) (hf : ff_X1_takePattern M x0 x1 = some (r, M2)) : Met l yX1_takePattern (mm_ws yX1_takePattern cX1_takePattern 2 (Option.some Jvm.ClassFile.FieldType.int)) rm_X1_takePattern (va_Pc [.ref x0, .ref x1] (mm_B g A M)) (mm_Ti g A r M2) 0 0 A := by
  refine mm_met (g := g) (lv := [(0, .ref x0), (1, .ref x1)]) (fun U h => h.2) (by decide +kernel) (Nat.le_of_ble_eq_true rfl) rfl ?_
  intro p e s m args below meth c ls C hr hnm hB hl
  obtain ⟨hR, hK⟩ := hB
  have hx := C.1
  have hb := C.2.1
  suffices hmain : ∀ (H : Heap) (locs : List Loc), mm_R g A M H → va_S A s.heap H locs → W p l e rm_X1_takePattern s m args below meth c H locs 0 0 (MQ below (mm_Ti g A r M2) args s 0 0 A) (F0 m 0 ls []) from hmain _ _ hR va_S.rf
  clear hR
  intro H locs hR hS
  unfold ff_X1_takePattern at hf
  refine lv_aload_n hx hb dX1_takePattern_0 rfl (lv_at hl 0 rfl) ?_
  refine lv_aload_n hx hb dX1_takePattern_1 rfl (lv_at hl 1 rfl) ?_
  refine lv_aload_n hx hb dX1_takePattern_2 rfl (lv_at hl 0 rfl) ?_
  obtain ⟨v1, ev1, hf⟩ := mm_bd hf
  refine mm_getR C hR fs_X1_15 ev1 dX1_takePattern_3 ?_
  obtain ⟨u2, eu2, hf⟩ := mm_bd hf
  obtain ⟨⟨v3, M4⟩, ev3, hf⟩ := mm_bd hf
  have hf := mm_u2e hf
  refine mm_callVi (As := [.ref v1]) (rest := [.ref x0]) C hR hS hl.1 vs_X1_47 eu2 (jj_X5_readShades l g A M x1 v1 v3 M4 ev3) ⟨rfl, rfl, (Nat.le_of_ble_eq_true rfl), (Nat.le_of_ble_eq_true rfl)⟩ rfl (Nat.le_of_ble_eq_true rfl) ⟨Nat.zero_le _, Nat.zero_le _⟩ rfl dX1_takePattern_6 (fun H locs hR hS => ?_)
  obtain ⟨M5, eM5, hf⟩ := mm_bd hf
  refine mm_putI C hR hS ps_X1_18 eM5 dX1_takePattern_9 (fun H locs hR hS => ?_)
  refine lv_aload_n hx hb dX1_takePattern_12 rfl (lv_at hl 0 rfl) ?_
  obtain ⟨v6, ev6, hf⟩ := mm_bd hf
  refine mm_getI C hR fs_X1_18 ev6 dX1_takePattern_13 ?_
  exact mm_ire C hR hS hr ((mm_pe hf).1) (mm_pe hf).2 dX1_takePattern_16
def ff_X1_hasCell (M : mm_M) (x0 : Nat) (x1 : Int32) (x2 : Int32) : Option Int32 := if x1 < (0 : Int32) then (some (0 : Int32)) else (Option.bind (mm_gI 1 M x0 4) fun v1 => if v1 ≤ x1 then (some (0 : Int32)) else (if x2 < (0 : Int32) then (some (0 : Int32)) else (Option.bind (mm_gI 1 M x0 5) fun v2 => if v2 ≤ x2 then (some (0 : Int32)) else (some (1 : Int32)))))
def rm_X1_hasCell : Room := { frames := 0, cells := 0, slots := 0, locals := 0 }
set_option maxHeartbeats 4000000 in
set_option maxRecDepth 100000 in
theorem jj_X1_hasCell (l : Launch) (g : mm_G) (A : Nat → Prop) (M : mm_M) (x0 : Nat) (x1 : Int32) (x2 : Int32) (r : Int32) (hf : ff_X1_hasCell M x0 x1 x2 = some r) : Met l yX1_hasCell (mm_ws yX1_hasCell cX1_hasCell 3 (Option.some Jvm.ClassFile.FieldType.boolean)) rm_X1_hasCell (va_Pc [.ref x0, .int x1, .int x2] (mm_B g A M)) (mm_Ti g A r M) 0 0 A := by
  refine mm_met (g := g) (lv := [(0, .ref x0), (1, .int x1), (2, .int x2)]) (fun U h => h.2) (by decide +kernel) (Nat.le_of_ble_eq_true rfl) rfl ?_
  intro p e s m args below meth c ls C hr hnm hB hl
  obtain ⟨hR, hK⟩ := hB
  have hx := C.1
  have hb := C.2.1
  suffices hmain : ∀ (H : Heap) (locs : List Loc), mm_R g A M H → va_S A s.heap H locs → W p l e rm_X1_hasCell s m args below meth c H locs 0 0 (MQ below (mm_Ti g A r M) args s 0 0 A) (F0 m 0 ls []) from hmain _ _ hR va_S.rf
  clear hR
  intro H locs hR hS
  unfold ff_X1_hasCell at hf
  refine lv_iload_n hx hb dX1_hasCell_0 rfl (lv_at hl 1 rfl) ?_
  refine lv_if_lt (tgt := 28) hx hb dX1_hasCell_1 (by decide) (fun hc => ?_) (fun hc => ?_)
  · have hf := mm_if1 hc hf
    refine lv_iconst (v := 0) hx hb dX1_hasCell_28 (by decide) ?_
    exact mm_zre C hR hS hr (Or.inl rfl) ((Option.some.inj hf)) rfl dX1_hasCell_29
  · have hf := mm_if0 hc hf
    refine lv_iload_n hx hb dX1_hasCell_4 rfl (lv_at hl 1 rfl) ?_
    refine lv_aload_n hx hb dX1_hasCell_5 rfl (lv_at hl 0 rfl) ?_
    obtain ⟨v1, ev1, hf⟩ := mm_bd hf
    refine mm_getI C hR fs_X1_29 ev1 dX1_hasCell_6 ?_
    refine lv_icmp_ge (tgt := 28) hx hb dX1_hasCell_9 (by decide) (fun hc => ?_) (fun hc => ?_)
    · have hf := mm_if1 hc hf
      refine lv_iconst (v := 0) hx hb dX1_hasCell_28 (by decide) ?_
      exact mm_zre C hR hS hr (Or.inl rfl) ((Option.some.inj hf)) rfl dX1_hasCell_29
    · have hf := mm_if0 hc hf
      refine lv_iload_n hx hb dX1_hasCell_12 rfl (lv_at hl 2 rfl) ?_
      refine lv_if_lt (tgt := 28) hx hb dX1_hasCell_13 (by decide) (fun hc => ?_) (fun hc => ?_)
      · have hf := mm_if1 hc hf
        refine lv_iconst (v := 0) hx hb dX1_hasCell_28 (by decide) ?_
        exact mm_zre C hR hS hr (Or.inl rfl) ((Option.some.inj hf)) rfl dX1_hasCell_29
      · have hf := mm_if0 hc hf
        refine lv_iload_n hx hb dX1_hasCell_16 rfl (lv_at hl 2 rfl) ?_
        refine lv_aload_n hx hb dX1_hasCell_17 rfl (lv_at hl 0 rfl) ?_
        obtain ⟨v2, ev2, hf⟩ := mm_bd hf
        refine mm_getI C hR fs_X1_32 ev2 dX1_hasCell_18 ?_
        refine lv_icmp_ge (tgt := 28) hx hb dX1_hasCell_21 (by decide) (fun hc => ?_) (fun hc => ?_)
        · have hf := mm_if1 hc hf
          refine lv_iconst (v := 0) hx hb dX1_hasCell_28 (by decide) ?_
          exact mm_zre C hR hS hr (Or.inl rfl) ((Option.some.inj hf)) rfl dX1_hasCell_29
        · have hf := mm_if0 hc hf
          refine lv_iconst (v := 1) hx hb dX1_hasCell_24 (by decide) ?_
          refine lv_goto (tgt := 29) hx hb dX1_hasCell_25 (by decide) ?_
          exact mm_zre C hR hS hr (Or.inr rfl) ((Option.some.inj hf)) rfl dX1_hasCell_29
def ff_X1_isBorder_j28 (M : mm_M) : Option (Int32) := some (1 : Int32)
def ff_X1_isBorder (M : mm_M) (x0 : Nat) (x1 : Int32) (x2 : Int32) : Option Int32 := if x1 = (0 : Int32) then (ff_X1_isBorder_j28 M) else (Option.bind (mm_gI 1 M x0 4) fun v1 => if x1 = (v1 - (1 : Int32)) then (ff_X1_isBorder_j28 M) else (if x2 = (0 : Int32) then (ff_X1_isBorder_j28 M) else (Option.bind (mm_gI 1 M x0 5) fun v2 => if x2 = (v2 - (1 : Int32)) then (ff_X1_isBorder_j28 M) else (some (0 : Int32)))))
def rm_X1_isBorder : Room := { frames := 0, cells := 0, slots := 0, locals := 0 }
set_option maxHeartbeats 4000000 in
set_option maxRecDepth 100000 in
theorem jj_X1_isBorder (l : Launch) (g : mm_G) (A : Nat → Prop) (M : mm_M) (x0 : Nat) (x1 : Int32) (x2 : Int32) (r : Int32) (hf : ff_X1_isBorder M x0 x1 x2 = some r) : Met l yX1_isBorder (mm_ws yX1_isBorder cX1_isBorder 3 (Option.some Jvm.ClassFile.FieldType.boolean)) rm_X1_isBorder (va_Pc [.ref x0, .int x1, .int x2] (mm_B g A M)) (mm_Ti g A r M) 0 0 A := by
  refine mm_met (g := g) (lv := [(0, .ref x0), (1, .int x1), (2, .int x2)]) (fun U h => h.2) (by decide +kernel) (Nat.le_of_ble_eq_true rfl) rfl ?_
  intro p e s m args below meth c ls C hr hnm hB hl
  obtain ⟨hR, hK⟩ := hB
  have hx := C.1
  have hb := C.2.1
  suffices hmain : ∀ (H : Heap) (locs : List Loc), mm_R g A M H → va_S A s.heap H locs → W p l e rm_X1_isBorder s m args below meth c H locs 0 0 (MQ below (mm_Ti g A r M) args s 0 0 A) (F0 m 0 ls []) from hmain _ _ hR va_S.rf
  clear hR
  intro H locs hR hS
  have J28 : ∀ (H : Heap) (locs : List Loc) (ls : Array Slot), mm_R g A M H → va_S A s.heap H locs → lv_has ls 3 [] → ff_X1_isBorder_j28 M = some r → W p l e rm_X1_isBorder s m args below meth c H locs 0 0 (MQ below (mm_Ti g A r M) args s 0 0 A) (F0 m 28 ls []) := by
    intro  H locs ls hR hS hl hf
    unfold ff_X1_isBorder_j28 at hf
    refine lv_iconst (v := 1) hx hb dX1_isBorder_28 (by decide) ?_
    refine lv_goto (tgt := 33) hx hb dX1_isBorder_29 (by decide) ?_
    exact mm_zre C hR hS hr (Or.inr rfl) ((Option.some.inj hf)) rfl dX1_isBorder_33
  unfold ff_X1_isBorder at hf
  refine lv_iload_n hx hb dX1_isBorder_0 rfl (lv_at hl 1 rfl) ?_
  refine lv_if_eq (tgt := 28) hx hb dX1_isBorder_1 (by decide) (fun hc => ?_) (fun hc => ?_)
  · have hf := mm_if1 hc hf
    exact J28  H locs ls hR hS (lv_sub hl [] rfl) hf
  · have hf := mm_if0 hc hf
    refine lv_iload_n hx hb dX1_isBorder_4 rfl (lv_at hl 1 rfl) ?_
    refine lv_aload_n hx hb dX1_isBorder_5 rfl (lv_at hl 0 rfl) ?_
    obtain ⟨v1, ev1, hf⟩ := mm_bd hf
    refine mm_getI C hR fs_X1_29 ev1 dX1_isBorder_6 ?_
    refine lv_iconst (v := 1) hx hb dX1_isBorder_9 (by decide) ?_
    refine lv_isub hx hb dX1_isBorder_10 ?_
    refine lv_icmp_eq (tgt := 28) hx hb dX1_isBorder_11 (by decide) (fun hc => ?_) (fun hc => ?_)
    · have hf := mm_if1 hc hf
      exact J28  H locs ls hR hS (lv_sub hl [] rfl) hf
    · have hf := mm_if0 hc hf
      refine lv_iload_n hx hb dX1_isBorder_14 rfl (lv_at hl 2 rfl) ?_
      refine lv_if_eq (tgt := 28) hx hb dX1_isBorder_15 (by decide) (fun hc => ?_) (fun hc => ?_)
      · have hf := mm_if1 hc hf
        exact J28  H locs ls hR hS (lv_sub hl [] rfl) hf
      · have hf := mm_if0 hc hf
        refine lv_iload_n hx hb dX1_isBorder_18 rfl (lv_at hl 2 rfl) ?_
        refine lv_aload_n hx hb dX1_isBorder_19 rfl (lv_at hl 0 rfl) ?_
        obtain ⟨v2, ev2, hf⟩ := mm_bd hf
        refine mm_getI C hR fs_X1_32 ev2 dX1_isBorder_20 ?_
        refine lv_iconst (v := 1) hx hb dX1_isBorder_23 (by decide) ?_
        refine lv_isub hx hb dX1_isBorder_24 ?_
        refine lv_icmp_ne (tgt := 32) hx hb dX1_isBorder_25 (by decide) (fun hc => ?_) (fun hc => ?_)
        · have hf := mm_if0 hc hf
          refine lv_iconst (v := 0) hx hb dX1_isBorder_32 (by decide) ?_
          exact mm_zre C hR hS hr (Or.inl rfl) ((Option.some.inj hf)) rfl dX1_isBorder_33
        · have hf := mm_if1 hc hf
          exact J28  H locs ls hR hS (lv_sub hl [] rfl) hf
def ff_X1_halfOfBorder (M : mm_M) (x0 : Nat) : Option Int32 := Option.bind (mm_gI 1 M x0 4) fun v1 => Option.bind (mm_gI 1 M x0 5) fun v2 => some (((v1 - (1 : Int32)) + v2) - (1 : Int32))
def rm_X1_halfOfBorder : Room := { frames := 0, cells := 0, slots := 0, locals := 0 }
set_option maxHeartbeats 4000000 in
set_option maxRecDepth 100000 in
theorem jj_X1_halfOfBorder (l : Launch) (g : mm_G) (A : Nat → Prop) (M : mm_M) (x0 : Nat) (r : Int32) (hf : ff_X1_halfOfBorder M x0 = some r) : Met l yX1_halfOfBorder (mm_ws yX1_halfOfBorder cX1_halfOfBorder 1 (Option.some Jvm.ClassFile.FieldType.int)) rm_X1_halfOfBorder (va_Pc [.ref x0] (mm_B g A M)) (mm_Ti g A r M) 0 0 A := by
  refine mm_met (g := g) (lv := [(0, .ref x0)]) (fun U h => h.2) (by decide +kernel) (Nat.le_of_ble_eq_true rfl) rfl ?_
  intro p e s m args below meth c ls C hr hnm hB hl
  obtain ⟨hR, hK⟩ := hB
  have hx := C.1
  have hb := C.2.1
  suffices hmain : ∀ (H : Heap) (locs : List Loc), mm_R g A M H → va_S A s.heap H locs → W p l e rm_X1_halfOfBorder s m args below meth c H locs 0 0 (MQ below (mm_Ti g A r M) args s 0 0 A) (F0 m 0 ls []) from hmain _ _ hR va_S.rf
  clear hR
  intro H locs hR hS
  unfold ff_X1_halfOfBorder at hf
  refine lv_aload_n hx hb dX1_halfOfBorder_0 rfl (lv_at hl 0 rfl) ?_
  obtain ⟨v1, ev1, hf⟩ := mm_bd hf
  refine mm_getI C hR fs_X1_29 ev1 dX1_halfOfBorder_1 ?_
  refine lv_iconst (v := 1) hx hb dX1_halfOfBorder_4 (by decide) ?_
  refine lv_isub hx hb dX1_halfOfBorder_5 ?_
  refine lv_aload_n hx hb dX1_halfOfBorder_6 rfl (lv_at hl 0 rfl) ?_
  obtain ⟨v2, ev2, hf⟩ := mm_bd hf
  refine mm_getI C hR fs_X1_32 ev2 dX1_halfOfBorder_7 ?_
  refine lv_iadd hx hb dX1_halfOfBorder_10 ?_
  refine lv_iconst (v := 1) hx hb dX1_halfOfBorder_11 (by decide) ?_
  refine lv_isub hx hb dX1_halfOfBorder_12 ?_
  exact mm_ire C hR hS hr ((Option.some.inj hf)) rfl dX1_halfOfBorder_13
def ff_X1_borderNumberAt (M : mm_M) (x0 : Nat) (x1 : Int32) (x2 : Int32) : Option Int32 := if x2 = (0 : Int32) then (some x1) else (Option.bind (mm_gI 1 M x0 4) fun v1 => if x1 = (v1 - (1 : Int32)) then (some (x1 + x2)) else (Option.bind (mm_gI 1 M x0 5) fun v2 => if x2 = (v2 - (1 : Int32)) then (Option.bind (mm_ck 1 M x0) fun u5 => Option.bind (ff_X1_halfOfBorder M x0) fun v6 => Option.bind (mm_gI 1 M x0 4) fun v7 => some (((v6 + v7) - (1 : Int32)) - x1)) else (Option.bind (mm_ck 1 M x0) fun u3 => Option.bind (ff_X1_halfOfBorder M x0) fun v4 => some (((2 : Int32) * v4) - x2))))
def rm_X1_borderNumberAt : Room := { frames := 1, cells := 0, slots := 0, locals := 20 }
set_option maxHeartbeats 4000000 in
set_option maxRecDepth 100000 in
theorem jj_X1_borderNumberAt (l : Launch) (g : mm_G) (A : Nat → Prop) (M : mm_M) (x0 : Nat) (x1 : Int32) (x2 : Int32) (r : Int32) (hf : ff_X1_borderNumberAt M x0 x1 x2 = some r) : Met l yX1_borderNumberAt (mm_ws yX1_borderNumberAt cX1_borderNumberAt 3 (Option.some Jvm.ClassFile.FieldType.int)) rm_X1_borderNumberAt (va_Pc [.ref x0, .int x1, .int x2] (mm_B g A M)) (mm_Ti g A r M) 0 0 A := by
  refine mm_met (g := g) (lv := [(0, .ref x0), (1, .int x1), (2, .int x2)]) (fun U h => h.2) (by decide +kernel) (Nat.le_of_ble_eq_true rfl) rfl ?_
  intro p e s m args below meth c ls C hr hnm hB hl
  obtain ⟨hR, hK⟩ := hB
  have hx := C.1
  have hb := C.2.1
  suffices hmain : ∀ (H : Heap) (locs : List Loc), mm_R g A M H → va_S A s.heap H locs → W p l e rm_X1_borderNumberAt s m args below meth c H locs 0 0 (MQ below (mm_Ti g A r M) args s 0 0 A) (F0 m 0 ls []) from hmain _ _ hR va_S.rf
  clear hR
  intro H locs hR hS
  unfold ff_X1_borderNumberAt at hf
  refine lv_iload_n hx hb dX1_borderNumberAt_0 rfl (lv_at hl 2 rfl) ?_
  refine lv_if_ne (tgt := 6) hx hb dX1_borderNumberAt_1 (by decide) (fun hc => ?_) (fun hc => ?_)
  · have hf := mm_if0 hc hf
    refine lv_iload_n hx hb dX1_borderNumberAt_6 rfl (lv_at hl 1 rfl) ?_
    refine lv_aload_n hx hb dX1_borderNumberAt_7 rfl (lv_at hl 0 rfl) ?_
    obtain ⟨v1, ev1, hf⟩ := mm_bd hf
    refine mm_getI C hR fs_X1_29 ev1 dX1_borderNumberAt_8 ?_
    refine lv_iconst (v := 1) hx hb dX1_borderNumberAt_11 (by decide) ?_
    refine lv_isub hx hb dX1_borderNumberAt_12 ?_
    refine lv_icmp_ne (tgt := 20) hx hb dX1_borderNumberAt_13 (by decide) (fun hc => ?_) (fun hc => ?_)
    · have hf := mm_if0 hc hf
      refine lv_iload_n hx hb dX1_borderNumberAt_20 rfl (lv_at hl 2 rfl) ?_
      refine lv_aload_n hx hb dX1_borderNumberAt_21 rfl (lv_at hl 0 rfl) ?_
      obtain ⟨v2, ev2, hf⟩ := mm_bd hf
      refine mm_getI C hR fs_X1_32 ev2 dX1_borderNumberAt_22 ?_
      refine lv_iconst (v := 1) hx hb dX1_borderNumberAt_25 (by decide) ?_
      refine lv_isub hx hb dX1_borderNumberAt_26 ?_
      refine lv_icmp_ne (tgt := 44) hx hb dX1_borderNumberAt_27 (by decide) (fun hc => ?_) (fun hc => ?_)
      · have hf := mm_if0 hc hf
        refine lv_iconst (v := 2) hx hb dX1_borderNumberAt_44 (by decide) ?_
        refine lv_aload_n hx hb dX1_borderNumberAt_45 rfl (lv_at hl 0 rfl) ?_
        obtain ⟨u3, eu3, hf⟩ := mm_bd hf
        obtain ⟨v4, ev4, hf⟩ := mm_bd hf
        refine mm_callVi (As := []) (rest := [.int (2 : Int32)]) C hR hS hl.1 vs_X1_53 eu3 (jj_X1_halfOfBorder l g A M x0 v4 ev4) ⟨rfl, rfl, (Nat.le_of_ble_eq_true rfl), (Nat.le_of_ble_eq_true rfl)⟩ rfl (Nat.le_of_ble_eq_true rfl) ⟨Nat.zero_le _, Nat.zero_le _⟩ rfl dX1_borderNumberAt_46 (fun H locs hR hS => ?_)
        refine lv_imul hx hb dX1_borderNumberAt_49 ?_
        refine lv_iload_n hx hb dX1_borderNumberAt_50 rfl (lv_at hl 2 rfl) ?_
        refine lv_isub hx hb dX1_borderNumberAt_51 ?_
        exact mm_ire C hR hS hr ((Option.some.inj hf)) rfl dX1_borderNumberAt_52
      · have hf := mm_if1 hc hf
        refine lv_aload_n hx hb dX1_borderNumberAt_30 rfl (lv_at hl 0 rfl) ?_
        obtain ⟨u5, eu5, hf⟩ := mm_bd hf
        obtain ⟨v6, ev6, hf⟩ := mm_bd hf
        refine mm_callVi (As := []) (rest := []) C hR hS hl.1 vs_X1_53 eu5 (jj_X1_halfOfBorder l g A M x0 v6 ev6) ⟨rfl, rfl, (Nat.le_of_ble_eq_true rfl), (Nat.le_of_ble_eq_true rfl)⟩ rfl (Nat.le_of_ble_eq_true rfl) ⟨Nat.zero_le _, Nat.zero_le _⟩ rfl dX1_borderNumberAt_31 (fun H locs hR hS => ?_)
        refine lv_aload_n hx hb dX1_borderNumberAt_34 rfl (lv_at hl 0 rfl) ?_
        obtain ⟨v7, ev7, hf⟩ := mm_bd hf
        refine mm_getI C hR fs_X1_29 ev7 dX1_borderNumberAt_35 ?_
        refine lv_iadd hx hb dX1_borderNumberAt_38 ?_
        refine lv_iconst (v := 1) hx hb dX1_borderNumberAt_39 (by decide) ?_
        refine lv_isub hx hb dX1_borderNumberAt_40 ?_
        refine lv_iload_n hx hb dX1_borderNumberAt_41 rfl (lv_at hl 1 rfl) ?_
        refine lv_isub hx hb dX1_borderNumberAt_42 ?_
        exact mm_ire C hR hS hr ((Option.some.inj hf)) rfl dX1_borderNumberAt_43
    · have hf := mm_if1 hc hf
      refine lv_iload_n hx hb dX1_borderNumberAt_16 rfl (lv_at hl 1 rfl) ?_
      refine lv_iload_n hx hb dX1_borderNumberAt_17 rfl (lv_at hl 2 rfl) ?_
      refine lv_iadd hx hb dX1_borderNumberAt_18 ?_
      exact mm_ire C hR hS hr ((Option.some.inj hf)) rfl dX1_borderNumberAt_19
  · have hf := mm_if1 hc hf
    refine lv_iload_n hx hb dX1_borderNumberAt_4 rfl (lv_at hl 1 rfl) ?_
    exact mm_ire C hR hS hr ((Option.some.inj hf)) rfl dX1_borderNumberAt_5
def ff_X1_patternShade (M : mm_M) (x0 : Nat) (x1 : Int32) : Option Int32 := if x1 < (0 : Int32) then (some (-1 : Int32)) else (Option.bind (mm_gI 1 M x0 2) fun v1 => if (0 : Int32) < v1 then (Option.bind (mm_gI 1 M x0 2) fun v2 => Option.bind (mm_rm x1 v2) fun v3 => Option.bind (mm_gR 1 M x0 1) fun v4 => Option.bind (mm_ln M v4) fun v5 => if v5 ≤ v3 then (some (-1 : Int32)) else (Option.bind (mm_gR 1 M x0 1) fun v6 => Option.bind (mm_aI 0 M v6 v3) fun v7 => some v7)) else (some (-1 : Int32)))
def rm_X1_patternShade : Room := { frames := 0, cells := 0, slots := 0, locals := 0 }
set_option maxHeartbeats 4000000 in
set_option maxRecDepth 100000 in
theorem jj_X1_patternShade (l : Launch) (g : mm_G) (A : Nat → Prop) (M : mm_M) (x0 : Nat) (x1 : Int32) (r : Int32) (hf : ff_X1_patternShade M x0 x1 = some r) : Met l yX1_patternShade (mm_ws yX1_patternShade cX1_patternShade 3 (Option.some Jvm.ClassFile.FieldType.int)) rm_X1_patternShade (va_Pc [.ref x0, .int x1] (mm_B g A M)) (mm_Ti g A r M) 0 0 A := by
  refine mm_met (g := g) (lv := [(0, .ref x0), (1, .int x1)]) (fun U h => h.2) (by decide +kernel) (Nat.le_of_ble_eq_true rfl) rfl ?_
  intro p e s m args below meth c ls C hr hnm hB hl
  obtain ⟨hR, hK⟩ := hB
  have hx := C.1
  have hb := C.2.1
  suffices hmain : ∀ (H : Heap) (locs : List Loc), mm_R g A M H → va_S A s.heap H locs → W p l e rm_X1_patternShade s m args below meth c H locs 0 0 (MQ below (mm_Ti g A r M) args s 0 0 A) (F0 m 0 ls []) from hmain _ _ hR va_S.rf
  clear hR
  intro H locs hR hS
  unfold ff_X1_patternShade at hf
  refine lv_iload_n hx hb dX1_patternShade_0 rfl (lv_at hl 1 rfl) ?_
  refine lv_if_lt (tgt := 11) hx hb dX1_patternShade_1 (by decide) (fun hc => ?_) (fun hc => ?_)
  · have hf := mm_if1 hc hf
    refine lv_iconst (v := -1) hx hb dX1_patternShade_11 (by decide) ?_
    exact mm_ire C hR hS hr ((Option.some.inj hf)) rfl dX1_patternShade_12
  · have hf := mm_if0 hc hf
    refine lv_aload_n hx hb dX1_patternShade_4 rfl (lv_at hl 0 rfl) ?_
    obtain ⟨v1, ev1, hf⟩ := mm_bd hf
    refine mm_getI C hR fs_X1_18 ev1 dX1_patternShade_5 ?_
    refine lv_if_gt (tgt := 13) hx hb dX1_patternShade_8 (by decide) (fun hc => ?_) (fun hc => ?_)
    · have hf := mm_if1 hc hf
      refine lv_iload_n hx hb dX1_patternShade_13 rfl (lv_at hl 1 rfl) ?_
      refine lv_aload_n hx hb dX1_patternShade_14 rfl (lv_at hl 0 rfl) ?_
      obtain ⟨v2, ev2, hf⟩ := mm_bd hf
      refine mm_getI C hR fs_X1_18 ev2 dX1_patternShade_15 ?_
      obtain ⟨v3, ev3, hf⟩ := mm_bd hf
      refine mm_irem C ev3 dX1_patternShade_18 ?_
      refine lv_istore_n (lv' := [(2, .int v3), (0, .ref x0), (1, .int x1)]) hx hb dX1_patternShade_19 rfl hl (by decide) rfl (fun ls hl => ?_)
      refine lv_iload_n hx hb dX1_patternShade_20 rfl (lv_at hl 0 rfl) ?_
      refine lv_aload_n hx hb dX1_patternShade_21 rfl (lv_at hl 1 rfl) ?_
      obtain ⟨v4, ev4, hf⟩ := mm_bd hf
      refine mm_getR C hR fs_X1_15 ev4 dX1_patternShade_22 ?_
      obtain ⟨v5, ev5, hf⟩ := mm_bd hf
      refine mm_alen C hR ev5 dX1_patternShade_25 ?_
      refine lv_icmp_ge (tgt := 38) hx hb dX1_patternShade_26 (by decide) (fun hc => ?_) (fun hc => ?_)
      · have hf := mm_if1 hc hf
        refine lv_iconst (v := -1) hx hb dX1_patternShade_38 (by decide) ?_
        exact mm_ire C hR hS hr ((Option.some.inj hf)) rfl dX1_patternShade_39
      · have hf := mm_if0 hc hf
        refine lv_aload_n hx hb dX1_patternShade_29 rfl (lv_at hl 1 rfl) ?_
        obtain ⟨v6, ev6, hf⟩ := mm_bd hf
        refine mm_getR C hR fs_X1_15 ev6 dX1_patternShade_30 ?_
        refine lv_iload_n hx hb dX1_patternShade_33 rfl (lv_at hl 0 rfl) ?_
        obtain ⟨v7, ev7, hf⟩ := mm_bd hf
        refine mm_iald C hR ev7 dX1_patternShade_34 ?_
        refine lv_goto (tgt := 39) hx hb dX1_patternShade_35 (by decide) ?_
        exact mm_ire C hR hS hr ((Option.some.inj hf)) rfl dX1_patternShade_39
    · have hf := mm_if0 hc hf
      refine lv_iconst (v := -1) hx hb dX1_patternShade_11 (by decide) ?_
      exact mm_ire C hR hS hr ((Option.some.inj hf)) rfl dX1_patternShade_12
def ff_X1_cellsOfWholePatterns (M : mm_M) (x0 : Nat) (x1 : Int32) : Option Int32 := Option.bind (mm_gI 1 M x0 2) fun v1 => if v1 ≤ (0 : Int32) then (some (0 : Int32)) else (Option.bind (mm_gI 1 M x0 2) fun v2 => Option.bind (mm_rm x1 v2) fun v3 => some (x1 - v3))
def rm_X1_cellsOfWholePatterns : Room := { frames := 0, cells := 0, slots := 0, locals := 0 }
set_option maxHeartbeats 4000000 in
set_option maxRecDepth 100000 in
theorem jj_X1_cellsOfWholePatterns (l : Launch) (g : mm_G) (A : Nat → Prop) (M : mm_M) (x0 : Nat) (x1 : Int32) (r : Int32) (hf : ff_X1_cellsOfWholePatterns M x0 x1 = some r) : Met l yX1_cellsOfWholePatterns (mm_ws yX1_cellsOfWholePatterns cX1_cellsOfWholePatterns 2 (Option.some Jvm.ClassFile.FieldType.int)) rm_X1_cellsOfWholePatterns (va_Pc [.ref x0, .int x1] (mm_B g A M)) (mm_Ti g A r M) 0 0 A := by
  refine mm_met (g := g) (lv := [(0, .ref x0), (1, .int x1)]) (fun U h => h.2) (by decide +kernel) (Nat.le_of_ble_eq_true rfl) rfl ?_
  intro p e s m args below meth c ls C hr hnm hB hl
  obtain ⟨hR, hK⟩ := hB
  have hx := C.1
  have hb := C.2.1
  suffices hmain : ∀ (H : Heap) (locs : List Loc), mm_R g A M H → va_S A s.heap H locs → W p l e rm_X1_cellsOfWholePatterns s m args below meth c H locs 0 0 (MQ below (mm_Ti g A r M) args s 0 0 A) (F0 m 0 ls []) from hmain _ _ hR va_S.rf
  clear hR
  intro H locs hR hS
  unfold ff_X1_cellsOfWholePatterns at hf
  refine lv_aload_n hx hb dX1_cellsOfWholePatterns_0 rfl (lv_at hl 0 rfl) ?_
  obtain ⟨v1, ev1, hf⟩ := mm_bd hf
  refine mm_getI C hR fs_X1_18 ev1 dX1_cellsOfWholePatterns_1 ?_
  refine lv_if_le (tgt := 18) hx hb dX1_cellsOfWholePatterns_4 (by decide) (fun hc => ?_) (fun hc => ?_)
  · have hf := mm_if1 hc hf
    refine lv_iconst (v := 0) hx hb dX1_cellsOfWholePatterns_18 (by decide) ?_
    exact mm_ire C hR hS hr ((Option.some.inj hf)) rfl dX1_cellsOfWholePatterns_19
  · have hf := mm_if0 hc hf
    refine lv_iload_n hx hb dX1_cellsOfWholePatterns_7 rfl (lv_at hl 1 rfl) ?_
    refine lv_iload_n hx hb dX1_cellsOfWholePatterns_8 rfl (lv_at hl 1 rfl) ?_
    refine lv_aload_n hx hb dX1_cellsOfWholePatterns_9 rfl (lv_at hl 0 rfl) ?_
    obtain ⟨v2, ev2, hf⟩ := mm_bd hf
    refine mm_getI C hR fs_X1_18 ev2 dX1_cellsOfWholePatterns_10 ?_
    obtain ⟨v3, ev3, hf⟩ := mm_bd hf
    refine mm_irem C ev3 dX1_cellsOfWholePatterns_13 ?_
    refine lv_isub hx hb dX1_cellsOfWholePatterns_14 ?_
    refine lv_goto (tgt := 19) hx hb dX1_cellsOfWholePatterns_15 (by decide) ?_
    exact mm_ire C hR hS hr ((Option.some.inj hf)) rfl dX1_cellsOfWholePatterns_19
def ff_X1_wantedInBorder_j137 (M : mm_M) (y0 : Int32) (y1 : Nat) : Option (Int32) := Option.bind (mm_ck 1 M y1) fun u15 => Option.bind (ff_X1_patternShade M y1 y0) fun v16 => some v16
def ff_X1_wantedInBorder_j72 (M : mm_M) (x0 : Nat) (x1 : Int32) (x4 : Int32) (y0 : Int32) : Option (Int32) := Option.bind (mm_gI 1 M x0 3) fun v8 => if v8 = (1 : Int32) then (Option.bind (mm_ck 1 M x0) fun u10 => Option.bind (ff_X1_patternShade M x0 (mm_mn y0 (x4 - y0))) fun v11 => some v11) else (if v8 = (2 : Int32) then (Option.bind (mm_ck 1 M x0) fun u13 => Option.bind (ff_X1_cellsOfWholePatterns M x0 x4) fun v14 => if v14 ≤ y0 then (ff_X1_wantedInBorder_j137 M (0 : Int32) x0) else (ff_X1_wantedInBorder_j137 M y0 x0)) else (Option.bind (mm_ck 1 M x0) fun u17 => Option.bind (ff_X1_patternShade M x0 x1) fun v18 => some v18))
def ff_X1_wantedInBorder_j54 (M : mm_M) (x0 : Nat) (x1 : Int32) (x2 : Int32) (x3 : Int32) (y0 : Int32) : Option (Int32) := if x3 = (0 : Int32) then (Option.bind (mm_gI 1 M x0 4) fun v7 => ff_X1_wantedInBorder_j72 M x0 x1 y0 (x2 - (v7 - (1 : Int32)))) else (ff_X1_wantedInBorder_j72 M x0 x1 y0 x2)
def ff_X1_wantedInBorder_j34 (M : mm_M) (x0 : Nat) (x1 : Int32) (x2 : Int32) (y0 : Int32) : Option (Int32) := if y0 = (0 : Int32) then (Option.bind (mm_gI 1 M x0 5) fun v6 => ff_X1_wantedInBorder_j54 M x0 x1 x2 y0 (v6 - (1 : Int32))) else (Option.bind (mm_gI 1 M x0 4) fun v19 => ff_X1_wantedInBorder_j54 M x0 x1 x2 y0 (v19 - (1 : Int32)))
def ff_X1_wantedInBorder_j18 (M : mm_M) (x0 : Nat) (x1 : Int32) (y0 : Int32) : Option (Int32) := Option.bind (mm_gI 1 M x0 4) fun v5 => if (v5 - (1 : Int32)) ≤ y0 then (ff_X1_wantedInBorder_j34 M x0 x1 y0 (0 : Int32)) else (ff_X1_wantedInBorder_j34 M x0 x1 y0 (1 : Int32))
def ff_X1_wantedInBorder (M : mm_M) (x0 : Nat) (x1 : Int32) : Option Int32 := Option.bind (mm_ck 1 M x0) fun u1 => Option.bind (ff_X1_halfOfBorder M x0) fun v2 => if v2 ≤ x1 then (Option.bind (mm_ck 1 M x0) fun u3 => Option.bind (ff_X1_halfOfBorder M x0) fun v4 => ff_X1_wantedInBorder_j18 M x0 x1 (x1 - v4)) else (ff_X1_wantedInBorder_j18 M x0 x1 x1)
def rm_X1_wantedInBorder : Room := { frames := 1, cells := 0, slots := 0, locals := 22 }
set_option maxHeartbeats 4000000 in
set_option maxRecDepth 100000 in
theorem jj_X1_wantedInBorder (l : Launch) (g : mm_G) (A : Nat → Prop) (M : mm_M) (x0 : Nat) (x1 : Int32) (r : Int32) (hf : ff_X1_wantedInBorder M x0 x1 = some r) : Met l yX1_wantedInBorder (mm_ws yX1_wantedInBorder cX1_wantedInBorder 6 (Option.some Jvm.ClassFile.FieldType.int)) rm_X1_wantedInBorder (va_Pc [.ref x0, .int x1] (mm_B g A M)) (mm_Ti g A r M) 0 0 A := by
  refine mm_met (g := g) (lv := [(0, .ref x0), (1, .int x1)]) (fun U h => h.2) (by decide +kernel) (Nat.le_of_ble_eq_true rfl) rfl ?_
  intro p e s m args below meth c ls C hr hnm hB hl
  obtain ⟨hR, hK⟩ := hB
  have hx := C.1
  have hb := C.2.1
  suffices hmain : ∀ (H : Heap) (locs : List Loc), mm_R g A M H → va_S A s.heap H locs → W p l e rm_X1_wantedInBorder s m args below meth c H locs 0 0 (MQ below (mm_Ti g A r M) args s 0 0 A) (F0 m 0 ls []) from hmain _ _ hR va_S.rf
  clear hR
  intro H locs hR hS
  have J137 : ∀ (y0 : Int32) (y1 : Nat) (H : Heap) (locs : List Loc) (ls : Array Slot), mm_R g A M H → va_S A s.heap H locs → lv_has ls 6 [] → ff_X1_wantedInBorder_j137 M y0 y1 = some r → W p l e rm_X1_wantedInBorder s m args below meth c H locs 0 0 (MQ below (mm_Ti g A r M) args s 0 0 A) (F0 m 137 ls [.int y0, .ref y1]) := by
    intro y0 y1 H locs ls hR hS hl hf
    unfold ff_X1_wantedInBorder_j137 at hf
    obtain ⟨u15, eu15, hf⟩ := mm_bd hf
    obtain ⟨v16, ev16, hf⟩ := mm_bd hf
    refine mm_callVi (As := [.int y0]) (rest := []) C hR hS hl.1 vs_X1_83 eu15 (jj_X1_patternShade l g A M y1 y0 v16 ev16) ⟨rfl, rfl, (Nat.le_of_ble_eq_true rfl), (Nat.le_of_ble_eq_true rfl)⟩ rfl (Nat.le_of_ble_eq_true rfl) ⟨Nat.zero_le _, Nat.zero_le _⟩ rfl dX1_wantedInBorder_137 (fun H locs hR hS => ?_)
    exact mm_ire C hR hS hr ((Option.some.inj hf)) rfl dX1_wantedInBorder_140
  have J72 : ∀ (x0 : Nat) (x1 : Int32) (x4 : Int32) (y0 : Int32) (H : Heap) (locs : List Loc) (ls : Array Slot), mm_R g A M H → va_S A s.heap H locs → lv_has ls 6 [(0, .ref x0), (1, .int x1), (4, .int x4)] → ff_X1_wantedInBorder_j72 M x0 x1 x4 y0 = some r → W p l e rm_X1_wantedInBorder s m args below meth c H locs 0 0 (MQ below (mm_Ti g A r M) args s 0 0 A) (F0 m 72 ls [.int y0]) := by
    intro x0 x1 x4 y0 H locs ls hR hS hl hf
    unfold ff_X1_wantedInBorder_j72 at hf
    refine lv_istore (lv' := [(5, .int y0), (0, .ref x0), (1, .int x1), (4, .int x4)]) hx hb dX1_wantedInBorder_72 hl (by decide) rfl (fun ls hl => ?_)
    refine lv_aload_n hx hb dX1_wantedInBorder_74 rfl (lv_at hl 1 rfl) ?_
    obtain ⟨v8, ev8, hf⟩ := mm_bd hf
    refine mm_getI C hR fs_X1_22 ev8 dX1_wantedInBorder_75 ?_
    by_cases hk9 : v8 = (1 : Int32)
    · have hf := mm_if1 hk9 hf
      refine lv_lookup (off := 26) (tgt := 104) hx hb dX1_wantedInBorder_78 (by decide) (by rw [hk9]; decide +kernel) (by decide) ?_
      refine lv_aload_n hx hb dX1_wantedInBorder_104 rfl (lv_at hl 1 rfl) ?_
      refine lv_iload hx hb dX1_wantedInBorder_105 (lv_at hl 0 rfl) ?_
      refine lv_iload hx hb dX1_wantedInBorder_107 (lv_at hl 3 rfl) ?_
      refine lv_iload hx hb dX1_wantedInBorder_109 (lv_at hl 0 rfl) ?_
      refine lv_isub hx hb dX1_wantedInBorder_111 ?_
      refine mm_min C hl.1 mw_308 mw_309 mw_9 mc_min (Nat.le_of_ble_eq_true rfl) (Nat.le_of_ble_eq_true rfl) ⟨Nat.zero_le _, Nat.zero_le _⟩ dX1_wantedInBorder_112 ?_
      obtain ⟨u10, eu10, hf⟩ := mm_bd hf
      obtain ⟨v11, ev11, hf⟩ := mm_bd hf
      refine mm_callVi (As := [.int (mm_mn y0 (x4 - y0))]) (rest := []) C hR hS hl.1 vs_X1_83 eu10 (jj_X1_patternShade l g A M x0 (mm_mn y0 (x4 - y0)) v11 ev11) ⟨rfl, rfl, (Nat.le_of_ble_eq_true rfl), (Nat.le_of_ble_eq_true rfl)⟩ rfl (Nat.le_of_ble_eq_true rfl) ⟨Nat.zero_le _, Nat.zero_le _⟩ rfl dX1_wantedInBorder_115 (fun H locs hR hS => ?_)
      exact mm_ire C hR hS hr ((Option.some.inj hf)) rfl dX1_wantedInBorder_118
    · have hf := mm_if0 hk9 hf
      by_cases hk12 : v8 = (2 : Int32)
      · have hf := mm_if1 hk12 hf
        refine lv_lookup (off := 41) (tgt := 119) hx hb dX1_wantedInBorder_78 (by decide) (by rw [hk12]; decide +kernel) (by decide) ?_
        refine lv_aload_n hx hb dX1_wantedInBorder_119 rfl (lv_at hl 1 rfl) ?_
        refine lv_iload hx hb dX1_wantedInBorder_120 (lv_at hl 0 rfl) ?_
        refine lv_aload_n hx hb dX1_wantedInBorder_122 rfl (lv_at hl 1 rfl) ?_
        refine lv_iload hx hb dX1_wantedInBorder_123 (lv_at hl 3 rfl) ?_
        obtain ⟨u13, eu13, hf⟩ := mm_bd hf
        obtain ⟨v14, ev14, hf⟩ := mm_bd hf
        refine mm_callVi (As := [.int x4]) (rest := [.int y0, .ref x0]) C hR hS hl.1 vs_X1_86 eu13 (jj_X1_cellsOfWholePatterns l g A M x0 x4 v14 ev14) ⟨rfl, rfl, (Nat.le_of_ble_eq_true rfl), (Nat.le_of_ble_eq_true rfl)⟩ rfl (Nat.le_of_ble_eq_true rfl) ⟨Nat.zero_le _, Nat.zero_le _⟩ rfl dX1_wantedInBorder_125 (fun H locs hR hS => ?_)
        refine lv_icmp_ge (tgt := 136) hx hb dX1_wantedInBorder_128 (by decide) (fun hc => ?_) (fun hc => ?_)
        · have hf := mm_if1 hc hf
          refine lv_iconst (v := 0) hx hb dX1_wantedInBorder_136 (by decide) ?_
          exact J137 (0 : Int32) x0 H locs ls hR hS (lv_sub hl [] rfl) hf
        · have hf := mm_if0 hc hf
          refine lv_iload hx hb dX1_wantedInBorder_131 (lv_at hl 0 rfl) ?_
          refine lv_goto (tgt := 137) hx hb dX1_wantedInBorder_133 (by decide) ?_
          exact J137 y0 x0 H locs ls hR hS (lv_sub hl [] rfl) hf
      · have hf := mm_if0 hk12 hf
        refine lv_lookup (off := 63) (tgt := 141) hx hb dX1_wantedInBorder_78 (by decide) ((lv_osw hk9 rfl).trans ((lv_osw hk12 rfl).trans rfl)) (by decide) ?_
        refine lv_aload_n hx hb dX1_wantedInBorder_141 rfl (lv_at hl 1 rfl) ?_
        refine lv_iload_n hx hb dX1_wantedInBorder_142 rfl (lv_at hl 2 rfl) ?_
        obtain ⟨u17, eu17, hf⟩ := mm_bd hf
        obtain ⟨v18, ev18, hf⟩ := mm_bd hf
        refine mm_callVi (As := [.int x1]) (rest := []) C hR hS hl.1 vs_X1_83 eu17 (jj_X1_patternShade l g A M x0 x1 v18 ev18) ⟨rfl, rfl, (Nat.le_of_ble_eq_true rfl), (Nat.le_of_ble_eq_true rfl)⟩ rfl (Nat.le_of_ble_eq_true rfl) ⟨Nat.zero_le _, Nat.zero_le _⟩ rfl dX1_wantedInBorder_143 (fun H locs hR hS => ?_)
        exact mm_ire C hR hS hr ((Option.some.inj hf)) rfl dX1_wantedInBorder_146
  have J54 : ∀ (x0 : Nat) (x1 : Int32) (x2 : Int32) (x3 : Int32) (y0 : Int32) (H : Heap) (locs : List Loc) (ls : Array Slot), mm_R g A M H → va_S A s.heap H locs → lv_has ls 6 [(0, .ref x0), (1, .int x1), (2, .int x2), (3, .int x3)] → ff_X1_wantedInBorder_j54 M x0 x1 x2 x3 y0 = some r → W p l e rm_X1_wantedInBorder s m args below meth c H locs 0 0 (MQ below (mm_Ti g A r M) args s 0 0 A) (F0 m 54 ls [.int y0]) := by
    intro x0 x1 x2 x3 y0 H locs ls hR hS hl hf
    unfold ff_X1_wantedInBorder_j54 at hf
    refine lv_istore (lv' := [(4, .int y0), (0, .ref x0), (1, .int x1), (2, .int x2), (3, .int x3)]) hx hb dX1_wantedInBorder_54 hl (by decide) rfl (fun ls hl => ?_)
    refine lv_iload_n hx hb dX1_wantedInBorder_56 rfl (lv_at hl 4 rfl) ?_
    refine lv_if_eq (tgt := 64) hx hb dX1_wantedInBorder_57 (by decide) (fun hc => ?_) (fun hc => ?_)
    · have hf := mm_if1 hc hf
      refine lv_iload_n hx hb dX1_wantedInBorder_64 rfl (lv_at hl 3 rfl) ?_
      refine lv_aload_n hx hb dX1_wantedInBorder_65 rfl (lv_at hl 1 rfl) ?_
      obtain ⟨v7, ev7, hf⟩ := mm_bd hf
      refine mm_getI C hR fs_X1_29 ev7 dX1_wantedInBorder_66 ?_
      refine lv_iconst (v := 1) hx hb dX1_wantedInBorder_69 (by decide) ?_
      refine lv_isub hx hb dX1_wantedInBorder_70 ?_
      refine lv_isub hx hb dX1_wantedInBorder_71 ?_
      exact J72 x0 x1 y0 (x2 - (v7 - (1 : Int32))) H locs ls hR hS (lv_sub hl [1, 2, 0] rfl) hf
    · have hf := mm_if0 hc hf
      refine lv_iload_n hx hb dX1_wantedInBorder_60 rfl (lv_at hl 3 rfl) ?_
      refine lv_goto (tgt := 72) hx hb dX1_wantedInBorder_61 (by decide) ?_
      exact J72 x0 x1 y0 x2 H locs ls hR hS (lv_sub hl [1, 2, 0] rfl) hf
  have J34 : ∀ (x0 : Nat) (x1 : Int32) (x2 : Int32) (y0 : Int32) (H : Heap) (locs : List Loc) (ls : Array Slot), mm_R g A M H → va_S A s.heap H locs → lv_has ls 6 [(0, .ref x0), (1, .int x1), (2, .int x2)] → ff_X1_wantedInBorder_j34 M x0 x1 x2 y0 = some r → W p l e rm_X1_wantedInBorder s m args below meth c H locs 0 0 (MQ below (mm_Ti g A r M) args s 0 0 A) (F0 m 34 ls [.int y0]) := by
    intro x0 x1 x2 y0 H locs ls hR hS hl hf
    unfold ff_X1_wantedInBorder_j34 at hf
    refine lv_istore_n (lv' := [(3, .int y0), (0, .ref x0), (1, .int x1), (2, .int x2)]) hx hb dX1_wantedInBorder_34 rfl hl (by decide) rfl (fun ls hl => ?_)
    refine lv_iload_n hx hb dX1_wantedInBorder_35 rfl (lv_at hl 0 rfl) ?_
    refine lv_if_eq (tgt := 48) hx hb dX1_wantedInBorder_36 (by decide) (fun hc => ?_) (fun hc => ?_)
    · have hf := mm_if1 hc hf
      refine lv_aload_n hx hb dX1_wantedInBorder_48 rfl (lv_at hl 1 rfl) ?_
      obtain ⟨v6, ev6, hf⟩ := mm_bd hf
      refine mm_getI C hR fs_X1_32 ev6 dX1_wantedInBorder_49 ?_
      refine lv_iconst (v := 1) hx hb dX1_wantedInBorder_52 (by decide) ?_
      refine lv_isub hx hb dX1_wantedInBorder_53 ?_
      exact J54 x0 x1 x2 y0 (v6 - (1 : Int32)) H locs ls hR hS (lv_sub hl [1, 2, 3, 0] rfl) hf
    · have hf := mm_if0 hc hf
      refine lv_aload_n hx hb dX1_wantedInBorder_39 rfl (lv_at hl 1 rfl) ?_
      obtain ⟨v19, ev19, hf⟩ := mm_bd hf
      refine mm_getI C hR fs_X1_29 ev19 dX1_wantedInBorder_40 ?_
      refine lv_iconst (v := 1) hx hb dX1_wantedInBorder_43 (by decide) ?_
      refine lv_isub hx hb dX1_wantedInBorder_44 ?_
      refine lv_goto (tgt := 54) hx hb dX1_wantedInBorder_45 (by decide) ?_
      exact J54 x0 x1 x2 y0 (v19 - (1 : Int32)) H locs ls hR hS (lv_sub hl [1, 2, 3, 0] rfl) hf
  have J18 : ∀ (x0 : Nat) (x1 : Int32) (y0 : Int32) (H : Heap) (locs : List Loc) (ls : Array Slot), mm_R g A M H → va_S A s.heap H locs → lv_has ls 6 [(0, .ref x0), (1, .int x1)] → ff_X1_wantedInBorder_j18 M x0 x1 y0 = some r → W p l e rm_X1_wantedInBorder s m args below meth c H locs 0 0 (MQ below (mm_Ti g A r M) args s 0 0 A) (F0 m 18 ls [.int y0]) := by
    intro x0 x1 y0 H locs ls hR hS hl hf
    unfold ff_X1_wantedInBorder_j18 at hf
    refine lv_istore_n (lv' := [(2, .int y0), (0, .ref x0), (1, .int x1)]) hx hb dX1_wantedInBorder_18 rfl hl (by decide) rfl (fun ls hl => ?_)
    refine lv_iload_n hx hb dX1_wantedInBorder_19 rfl (lv_at hl 0 rfl) ?_
    refine lv_aload_n hx hb dX1_wantedInBorder_20 rfl (lv_at hl 1 rfl) ?_
    obtain ⟨v5, ev5, hf⟩ := mm_bd hf
    refine mm_getI C hR fs_X1_29 ev5 dX1_wantedInBorder_21 ?_
    refine lv_iconst (v := 1) hx hb dX1_wantedInBorder_24 (by decide) ?_
    refine lv_isub hx hb dX1_wantedInBorder_25 ?_
    refine lv_icmp_ge (tgt := 33) hx hb dX1_wantedInBorder_26 (by decide) (fun hc => ?_) (fun hc => ?_)
    · have hf := mm_if1 hc hf
      refine lv_iconst (v := 0) hx hb dX1_wantedInBorder_33 (by decide) ?_
      exact J34 x0 x1 y0 (0 : Int32) H locs ls hR hS (lv_sub hl [1, 2, 0] rfl) hf
    · have hf := mm_if0 hc hf
      refine lv_iconst (v := 1) hx hb dX1_wantedInBorder_29 (by decide) ?_
      refine lv_goto (tgt := 34) hx hb dX1_wantedInBorder_30 (by decide) ?_
      exact J34 x0 x1 y0 (1 : Int32) H locs ls hR hS (lv_sub hl [1, 2, 0] rfl) hf
  unfold ff_X1_wantedInBorder at hf
  refine lv_iload_n hx hb dX1_wantedInBorder_0 rfl (lv_at hl 1 rfl) ?_
  refine lv_aload_n hx hb dX1_wantedInBorder_1 rfl (lv_at hl 0 rfl) ?_
  obtain ⟨u1, eu1, hf⟩ := mm_bd hf
  obtain ⟨v2, ev2, hf⟩ := mm_bd hf
  refine mm_callVi (As := []) (rest := [.int x1]) C hR hS hl.1 vs_X1_53 eu1 (jj_X1_halfOfBorder l g A M x0 v2 ev2) ⟨rfl, rfl, (Nat.le_of_ble_eq_true rfl), (Nat.le_of_ble_eq_true rfl)⟩ rfl (Nat.le_of_ble_eq_true rfl) ⟨Nat.zero_le _, Nat.zero_le _⟩ rfl dX1_wantedInBorder_2 (fun H locs hR hS => ?_)
  refine lv_icmp_ge (tgt := 12) hx hb dX1_wantedInBorder_5 (by decide) (fun hc => ?_) (fun hc => ?_)
  · have hf := mm_if1 hc hf
    refine lv_iload_n hx hb dX1_wantedInBorder_12 rfl (lv_at hl 1 rfl) ?_
    refine lv_aload_n hx hb dX1_wantedInBorder_13 rfl (lv_at hl 0 rfl) ?_
    obtain ⟨u3, eu3, hf⟩ := mm_bd hf
    obtain ⟨v4, ev4, hf⟩ := mm_bd hf
    refine mm_callVi (As := []) (rest := [.int x1]) C hR hS hl.1 vs_X1_53 eu3 (jj_X1_halfOfBorder l g A M x0 v4 ev4) ⟨rfl, rfl, (Nat.le_of_ble_eq_true rfl), (Nat.le_of_ble_eq_true rfl)⟩ rfl (Nat.le_of_ble_eq_true rfl) ⟨Nat.zero_le _, Nat.zero_le _⟩ rfl dX1_wantedInBorder_14 (fun H locs hR hS => ?_)
    refine lv_isub hx hb dX1_wantedInBorder_17 ?_
    exact J18 x0 x1 (x1 - v4) H locs ls hR hS (lv_sub hl [0, 1] rfl) hf
  · have hf := mm_if0 hc hf
    refine lv_iload_n hx hb dX1_wantedInBorder_8 rfl (lv_at hl 1 rfl) ?_
    refine lv_goto (tgt := 18) hx hb dX1_wantedInBorder_9 (by decide) ?_
    exact J18 x0 x1 x1 H locs ls hR hS (lv_sub hl [0, 1] rfl) hf
def ff_X1_wantedAt (M : mm_M) (x0 : Nat) (x1 : Int32) (x2 : Int32) : Option Int32 := Option.bind (mm_ck 1 M x0) fun u1 => Option.bind (ff_X1_hasCell M x0 x1 x2) fun v2 => if v2 = (0 : Int32) then (some (-1 : Int32)) else (Option.bind (mm_ck 1 M x0) fun u3 => Option.bind (ff_X1_isBorder M x0 x1 x2) fun v4 => if v4 = (0 : Int32) then (Option.bind (mm_gR 1 M x0 0) fun v5 => Option.bind (mm_aI 0 M v5 ((x2 * (12 : Int32)) + x1)) fun v6 => some v6) else (Option.bind (mm_ck 1 M x0) fun u7 => Option.bind (ff_X1_borderNumberAt M x0 x1 x2) fun v8 => Option.bind (mm_ck 1 M x0) fun u9 => Option.bind (ff_X1_wantedInBorder M x0 v8) fun v10 => some v10))
def rm_X1_wantedAt : Room := { frames := 2, cells := 0, slots := 0, locals := 47 }
set_option maxHeartbeats 4000000 in
set_option maxRecDepth 100000 in
theorem jj_X1_wantedAt (l : Launch) (g : mm_G) (A : Nat → Prop) (M : mm_M) (x0 : Nat) (x1 : Int32) (x2 : Int32) (r : Int32) (hf : ff_X1_wantedAt M x0 x1 x2 = some r) : Met l yX1_wantedAt (mm_ws yX1_wantedAt cX1_wantedAt 3 (Option.some Jvm.ClassFile.FieldType.int)) rm_X1_wantedAt (va_Pc [.ref x0, .int x1, .int x2] (mm_B g A M)) (mm_Ti g A r M) 0 0 A := by
  refine mm_met (g := g) (lv := [(0, .ref x0), (1, .int x1), (2, .int x2)]) (fun U h => h.2) (by decide +kernel) (Nat.le_of_ble_eq_true rfl) rfl ?_
  intro p e s m args below meth c ls C hr hnm hB hl
  obtain ⟨hR, hK⟩ := hB
  have hx := C.1
  have hb := C.2.1
  suffices hmain : ∀ (H : Heap) (locs : List Loc), mm_R g A M H → va_S A s.heap H locs → W p l e rm_X1_wantedAt s m args below meth c H locs 0 0 (MQ below (mm_Ti g A r M) args s 0 0 A) (F0 m 0 ls []) from hmain _ _ hR va_S.rf
  clear hR
  intro H locs hR hS
  unfold ff_X1_wantedAt at hf
  refine lv_aload_n hx hb dX1_wantedAt_0 rfl (lv_at hl 0 rfl) ?_
  refine lv_iload_n hx hb dX1_wantedAt_1 rfl (lv_at hl 1 rfl) ?_
  refine lv_iload_n hx hb dX1_wantedAt_2 rfl (lv_at hl 2 rfl) ?_
  obtain ⟨u1, eu1, hf⟩ := mm_bd hf
  obtain ⟨v2, ev2, hf⟩ := mm_bd hf
  refine mm_callVi (As := [.int x1, .int x2]) (rest := []) C hR hS hl.1 vs_X1_69 eu1 (jj_X1_hasCell l g A M x0 x1 x2 v2 ev2) ⟨rfl, rfl, (Nat.le_of_ble_eq_true rfl), (Nat.le_of_ble_eq_true rfl)⟩ rfl (Nat.le_of_ble_eq_true rfl) ⟨Nat.zero_le _, Nat.zero_le _⟩ rfl dX1_wantedAt_3 (fun H locs hR hS => ?_)
  refine lv_if_ne (tgt := 11) hx hb dX1_wantedAt_6 (by decide) (fun hc => ?_) (fun hc => ?_)
  · have hf := mm_if0 hc hf
    refine lv_aload_n hx hb dX1_wantedAt_11 rfl (lv_at hl 0 rfl) ?_
    refine lv_iload_n hx hb dX1_wantedAt_12 rfl (lv_at hl 1 rfl) ?_
    refine lv_iload_n hx hb dX1_wantedAt_13 rfl (lv_at hl 2 rfl) ?_
    obtain ⟨u3, eu3, hf⟩ := mm_bd hf
    obtain ⟨v4, ev4, hf⟩ := mm_bd hf
    refine mm_callVi (As := [.int x1, .int x2]) (rest := []) C hR hS hl.1 vs_X1_73 eu3 (jj_X1_isBorder l g A M x0 x1 x2 v4 ev4) ⟨rfl, rfl, (Nat.le_of_ble_eq_true rfl), (Nat.le_of_ble_eq_true rfl)⟩ rfl (Nat.le_of_ble_eq_true rfl) ⟨Nat.zero_le _, Nat.zero_le _⟩ rfl dX1_wantedAt_14 (fun H locs hR hS => ?_)
    refine lv_if_eq (tgt := 33) hx hb dX1_wantedAt_17 (by decide) (fun hc => ?_) (fun hc => ?_)
    · have hf := mm_if1 hc hf
      refine lv_aload_n hx hb dX1_wantedAt_33 rfl (lv_at hl 0 rfl) ?_
      obtain ⟨v5, ev5, hf⟩ := mm_bd hf
      refine mm_getR C hR fs_X1_9 ev5 dX1_wantedAt_34 ?_
      refine lv_iload_n hx hb dX1_wantedAt_37 rfl (lv_at hl 2 rfl) ?_
      refine lv_bipush (v := 12) hx hb dX1_wantedAt_38 (by decide) ?_
      refine lv_imul hx hb dX1_wantedAt_40 ?_
      refine lv_iload_n hx hb dX1_wantedAt_41 rfl (lv_at hl 1 rfl) ?_
      refine lv_iadd hx hb dX1_wantedAt_42 ?_
      obtain ⟨v6, ev6, hf⟩ := mm_bd hf
      refine mm_iald C hR ev6 dX1_wantedAt_43 ?_
      exact mm_ire C hR hS hr ((Option.some.inj hf)) rfl dX1_wantedAt_44
    · have hf := mm_if0 hc hf
      refine lv_aload_n hx hb dX1_wantedAt_20 rfl (lv_at hl 0 rfl) ?_
      refine lv_aload_n hx hb dX1_wantedAt_21 rfl (lv_at hl 0 rfl) ?_
      refine lv_iload_n hx hb dX1_wantedAt_22 rfl (lv_at hl 1 rfl) ?_
      refine lv_iload_n hx hb dX1_wantedAt_23 rfl (lv_at hl 2 rfl) ?_
      obtain ⟨u7, eu7, hf⟩ := mm_bd hf
      obtain ⟨v8, ev8, hf⟩ := mm_bd hf
      refine mm_callVi (As := [.int x1, .int x2]) (rest := [.ref x0]) C hR hS hl.1 vs_X1_76 eu7 (jj_X1_borderNumberAt l g A M x0 x1 x2 v8 ev8) ⟨rfl, rfl, (Nat.le_of_ble_eq_true rfl), (Nat.le_of_ble_eq_true rfl)⟩ rfl (Nat.le_of_ble_eq_true rfl) ⟨Nat.zero_le _, Nat.zero_le _⟩ rfl dX1_wantedAt_24 (fun H locs hR hS => ?_)
      obtain ⟨u9, eu9, hf⟩ := mm_bd hf
      obtain ⟨v10, ev10, hf⟩ := mm_bd hf
      refine mm_callVi (As := [.int v8]) (rest := []) C hR hS hl.1 vs_X1_79 eu9 (jj_X1_wantedInBorder l g A M x0 v8 v10 ev10) ⟨rfl, rfl, (Nat.le_of_ble_eq_true rfl), (Nat.le_of_ble_eq_true rfl)⟩ rfl (Nat.le_of_ble_eq_true rfl) ⟨Nat.zero_le _, Nat.zero_le _⟩ rfl dX1_wantedAt_27 (fun H locs hR hS => ?_)
      refine lv_goto (tgt := 44) hx hb dX1_wantedAt_30 (by decide) ?_
      exact mm_ire C hR hS hr ((Option.some.inj hf)) rfl dX1_wantedAt_44
  · have hf := mm_if1 hc hf
    refine lv_iconst (v := -1) hx hb dX1_wantedAt_9 (by decide) ?_
    exact mm_ire C hR hS hr ((Option.some.inj hf)) rfl dX1_wantedAt_10
def ff_X1_wantInField (M : mm_M) (x0 : Nat) (x1 : Int32) (x2 : Int32) (x3 : Int32) : Option mm_M := Option.bind (mm_ck 1 M x0) fun u1 => Option.bind (ff_X1_hasCell M x0 x1 x2) fun v2 => if v2 = (0 : Int32) then (some M) else (Option.bind (mm_gR 1 M x0 0) fun v3 => Option.bind (mm_sI 0 M v3 ((x2 * (12 : Int32)) + x1) x3) fun M4 => some M4)
def rm_X1_wantInField : Room := { frames := 1, cells := 0, slots := 0, locals := 22 }
set_option maxHeartbeats 4000000 in
set_option maxRecDepth 100000 in
theorem jj_X1_wantInField (l : Launch) (g : mm_G) (A : Nat → Prop) (M : mm_M) (x0 : Nat) (x1 : Int32) (x2 : Int32) (x3 : Int32) (M2 : mm_M) (hf : ff_X1_wantInField M x0 x1 x2 x3 = some M2) : Met l yX1_wantInField (mm_ws yX1_wantInField cX1_wantInField 4 (Option.none : Option Jvm.ClassFile.FieldType)) rm_X1_wantInField (va_Pc [.ref x0, .int x1, .int x2, .int x3] (mm_B g A M)) (mm_Tv g A M2) 0 0 A := by
  refine mm_met (g := g) (lv := [(0, .ref x0), (1, .int x1), (2, .int x2), (3, .int x3)]) (fun U h => h.2) (by decide +kernel) (Nat.le_of_ble_eq_true rfl) rfl ?_
  intro p e s m args below meth c ls C hr hnm hB hl
  obtain ⟨hR, hK⟩ := hB
  have hx := C.1
  have hb := C.2.1
  suffices hmain : ∀ (H : Heap) (locs : List Loc), mm_R g A M H → va_S A s.heap H locs → W p l e rm_X1_wantInField s m args below meth c H locs 0 0 (MQ below (mm_Tv g A M2) args s 0 0 A) (F0 m 0 ls []) from hmain _ _ hR va_S.rf
  clear hR
  intro H locs hR hS
  unfold ff_X1_wantInField at hf
  refine lv_aload_n hx hb dX1_wantInField_0 rfl (lv_at hl 0 rfl) ?_
  refine lv_iload_n hx hb dX1_wantInField_1 rfl (lv_at hl 1 rfl) ?_
  refine lv_iload_n hx hb dX1_wantInField_2 rfl (lv_at hl 2 rfl) ?_
  obtain ⟨u1, eu1, hf⟩ := mm_bd hf
  obtain ⟨v2, ev2, hf⟩ := mm_bd hf
  refine mm_callVi (As := [.int x1, .int x2]) (rest := []) C hR hS hl.1 vs_X1_69 eu1 (jj_X1_hasCell l g A M x0 x1 x2 v2 ev2) ⟨rfl, rfl, (Nat.le_of_ble_eq_true rfl), (Nat.le_of_ble_eq_true rfl)⟩ rfl (Nat.le_of_ble_eq_true rfl) ⟨Nat.zero_le _, Nat.zero_le _⟩ rfl dX1_wantInField_3 (fun H locs hR hS => ?_)
  refine lv_if_eq (tgt := 21) hx hb dX1_wantInField_6 (by decide) (fun hc => ?_) (fun hc => ?_)
  · have hf := mm_if1 hc hf
    exact mm_vre C hR hS hr (Option.some.inj hf) dX1_wantInField_21
  · have hf := mm_if0 hc hf
    refine lv_aload_n hx hb dX1_wantInField_9 rfl (lv_at hl 0 rfl) ?_
    obtain ⟨v3, ev3, hf⟩ := mm_bd hf
    refine mm_getR C hR fs_X1_9 ev3 dX1_wantInField_10 ?_
    refine lv_iload_n hx hb dX1_wantInField_13 rfl (lv_at hl 2 rfl) ?_
    refine lv_bipush (v := 12) hx hb dX1_wantInField_14 (by decide) ?_
    refine lv_imul hx hb dX1_wantInField_16 ?_
    refine lv_iload_n hx hb dX1_wantInField_17 rfl (lv_at hl 1 rfl) ?_
    refine lv_iadd hx hb dX1_wantInField_18 ?_
    refine lv_iload_n hx hb dX1_wantInField_19 rfl (lv_at hl 3 rfl) ?_
    obtain ⟨M4, eM4, hf⟩ := mm_bd hf
    refine mm_iast C hR hS eM4 dX1_wantInField_20 (fun H locs hR hS => ?_)
    exact mm_vre C hR hS hr (Option.some.inj hf) dX1_wantInField_21
def ff_X1_borderCells (M : mm_M) (x0 : Nat) : Option Int32 := Option.bind (mm_ck 1 M x0) fun u1 => Option.bind (ff_X1_halfOfBorder M x0) fun v2 => some ((2 : Int32) * v2)
def rm_X1_borderCells : Room := { frames := 1, cells := 0, slots := 0, locals := 20 }
set_option maxHeartbeats 4000000 in
set_option maxRecDepth 100000 in
theorem jj_X1_borderCells (l : Launch) (g : mm_G) (A : Nat → Prop) (M : mm_M) (x0 : Nat) (r : Int32) (hf : ff_X1_borderCells M x0 = some r) : Met l yX1_borderCells (mm_ws yX1_borderCells cX1_borderCells 1 (Option.some Jvm.ClassFile.FieldType.int)) rm_X1_borderCells (va_Pc [.ref x0] (mm_B g A M)) (mm_Ti g A r M) 0 0 A := by
  refine mm_met (g := g) (lv := [(0, .ref x0)]) (fun U h => h.2) (by decide +kernel) (Nat.le_of_ble_eq_true rfl) rfl ?_
  intro p e s m args below meth c ls C hr hnm hB hl
  obtain ⟨hR, hK⟩ := hB
  have hx := C.1
  have hb := C.2.1
  suffices hmain : ∀ (H : Heap) (locs : List Loc), mm_R g A M H → va_S A s.heap H locs → W p l e rm_X1_borderCells s m args below meth c H locs 0 0 (MQ below (mm_Ti g A r M) args s 0 0 A) (F0 m 0 ls []) from hmain _ _ hR va_S.rf
  clear hR
  intro H locs hR hS
  unfold ff_X1_borderCells at hf
  refine lv_iconst (v := 2) hx hb dX1_borderCells_0 (by decide) ?_
  refine lv_aload_n hx hb dX1_borderCells_1 rfl (lv_at hl 0 rfl) ?_
  obtain ⟨u1, eu1, hf⟩ := mm_bd hf
  obtain ⟨v2, ev2, hf⟩ := mm_bd hf
  refine mm_callVi (As := []) (rest := [.int (2 : Int32)]) C hR hS hl.1 vs_X1_53 eu1 (jj_X1_halfOfBorder l g A M x0 v2 ev2) ⟨rfl, rfl, (Nat.le_of_ble_eq_true rfl), (Nat.le_of_ble_eq_true rfl)⟩ rfl (Nat.le_of_ble_eq_true rfl) ⟨Nat.zero_le _, Nat.zero_le _⟩ rfl dX1_borderCells_2 (fun H locs hR hS => ?_)
  refine lv_imul hx hb dX1_borderCells_5 ?_
  exact mm_ire C hR hS hr ((Option.some.inj hf)) rfl dX1_borderCells_6
def ff_X1_patternHasOneShade_l2  (M : mm_M) (x0 : Nat) (x1 : Int32) : Option (Int32 ⊕ (Int32 ⊕ Int32)) := Option.bind (mm_gI 1 M x0 2) fun v1 => if v1 ≤ x1 then (some (.inr (.inl x1))) else (Option.bind (mm_ck 1 M x0) fun u2 => Option.bind (ff_X1_patternShade M x0 x1) fun v3 => Option.bind (mm_ck 1 M x0) fun u4 => Option.bind (ff_X1_patternShade M x0 (0 : Int32)) fun v5 => if v3 = v5 then (some (.inl (x1 + (1 : Int32)))) else (some (.inr (.inr (0 : Int32)))))
def ff_X1_patternHasOneShade (M : mm_M) (x0 : Nat) : Option Int32 := Option.bind (mm_it (mm_u1 (ff_X1_patternHasOneShade_l2 M x0)) mm_fu (1 : Int32)) fun e6 => Sum.elim (mm_u1 (fun x1_7 => some (1 : Int32))) some e6
def rm_X1_patternHasOneShade : Room := { frames := 1, cells := 0, slots := 0, locals := 22 }
set_option maxHeartbeats 4000000 in
set_option maxRecDepth 100000 in
theorem jj_X1_patternHasOneShade (l : Launch) (g : mm_G) (A : Nat → Prop) (M : mm_M) (x0 : Nat) (r : Int32) (hf : ff_X1_patternHasOneShade M x0 = some r) : Met l yX1_patternHasOneShade (mm_ws yX1_patternHasOneShade cX1_patternHasOneShade 2 (Option.some Jvm.ClassFile.FieldType.boolean)) rm_X1_patternHasOneShade (va_Pc [.ref x0] (mm_B g A M)) (mm_Ti g A r M) 0 0 A := by
  refine mm_met (g := g) (lv := [(0, .ref x0)]) (fun U h => h.2) (by decide +kernel) (Nat.le_of_ble_eq_true rfl) rfl ?_
  intro p e s m args below meth c ls C hr hnm hB hl
  obtain ⟨hR, hK⟩ := hB
  have hx := C.1
  have hb := C.2.1
  suffices hmain : ∀ (H : Heap) (locs : List Loc), mm_R g A M H → va_S A s.heap H locs → W p l e rm_X1_patternHasOneShade s m args below meth c H locs 0 0 (MQ below (mm_Ti g A r M) args s 0 0 A) (F0 m 0 ls []) from hmain _ _ hR va_S.rf
  clear hR
  intro H locs hR hS
  have L2 : ∀ (x0 : Nat) (e1 : Int32 ⊕ Int32) (hX : ∀ (x1 : Int32), e1 = .inl x1 → ∀ (H : Heap) (locs : List Loc) (ls : Array Slot), mm_R g A M H → va_S A s.heap H locs → lv_has ls 2 [] → W p l e rm_X1_patternHasOneShade s m args below meth c H locs 0 0 (MQ below (mm_Ti g A r M) args s 0 0 A) (F0 m 31 ls [])) (hY : ∀ (v : Int32), e1 = .inr v → v = r) (n : Nat) (x1 : Int32), mm_it (mm_u1 (ff_X1_patternHasOneShade_l2 M x0)) n x1 = some e1 → ∀ (H : Heap) (locs : List Loc) (ls : Array Slot), mm_R g A M H → va_S A s.heap H locs → lv_has ls 2 [(0, .ref x0), (1, .int x1)] → W p l e rm_X1_patternHasOneShade s m args below meth c H locs 0 0 (MQ below (mm_Ti g A r M) args s 0 0 A) (F0 m 2 ls []) := by
    intro x0 e1 hX hY n x1 hit
    refine mm_itW (Hd := fun st => ∀ (H : Heap) (locs : List Loc) (ls : Array Slot), mm_R g A M H → va_S A s.heap H locs → lv_has ls 2 [(0, .ref x0), (1, .int st)] → W p l e rm_X1_patternHasOneShade s m args below meth c H locs 0 0 (MQ below (mm_Ti g A r M) args s 0 0 A) (F0 m 2 ls [])) (fun st y hf hin hout => ?_) n x1 hit
    revert hf; generalize st = x1; intro hf
    have hf := mm_u1e hf
    intro H locs ls hR hS hl
    unfold ff_X1_patternHasOneShade_l2 at hf
    refine lv_iload_n hx hb dX1_patternHasOneShade_2 rfl (lv_at hl 1 rfl) ?_
    refine lv_aload_n hx hb dX1_patternHasOneShade_3 rfl (lv_at hl 0 rfl) ?_
    obtain ⟨v1, ev1, hf⟩ := mm_bd hf
    refine mm_getI C hR fs_X1_18 ev1 dX1_patternHasOneShade_4 ?_
    refine lv_icmp_ge (tgt := 31) hx hb dX1_patternHasOneShade_7 (by decide) (fun hc => ?_) (fun hc => ?_)
    · have hf := mm_if1 hc hf
      exact hX _ (hout _ (Option.some.inj hf).symm).symm H locs ls hR hS (lv_sub hl [] rfl)
    · have hf := mm_if0 hc hf
      refine lv_aload_n hx hb dX1_patternHasOneShade_10 rfl (lv_at hl 0 rfl) ?_
      refine lv_iload_n hx hb dX1_patternHasOneShade_11 rfl (lv_at hl 1 rfl) ?_
      obtain ⟨u2, eu2, hf⟩ := mm_bd hf
      obtain ⟨v3, ev3, hf⟩ := mm_bd hf
      refine mm_callVi (As := [.int x1]) (rest := []) C hR hS hl.1 vs_X1_83 eu2 (jj_X1_patternShade l g A M x0 x1 v3 ev3) ⟨rfl, rfl, (Nat.le_of_ble_eq_true rfl), (Nat.le_of_ble_eq_true rfl)⟩ rfl (Nat.le_of_ble_eq_true rfl) ⟨Nat.zero_le _, Nat.zero_le _⟩ rfl dX1_patternHasOneShade_12 (fun H locs hR hS => ?_)
      refine lv_aload_n hx hb dX1_patternHasOneShade_15 rfl (lv_at hl 0 rfl) ?_
      refine lv_iconst (v := 0) hx hb dX1_patternHasOneShade_16 (by decide) ?_
      obtain ⟨u4, eu4, hf⟩ := mm_bd hf
      obtain ⟨v5, ev5, hf⟩ := mm_bd hf
      refine mm_callVi (As := [.int (0 : Int32)]) (rest := [.int v3]) C hR hS hl.1 vs_X1_83 eu4 (jj_X1_patternShade l g A M x0 (0 : Int32) v5 ev5) ⟨rfl, rfl, (Nat.le_of_ble_eq_true rfl), (Nat.le_of_ble_eq_true rfl)⟩ rfl (Nat.le_of_ble_eq_true rfl) ⟨Nat.zero_le _, Nat.zero_le _⟩ rfl dX1_patternHasOneShade_17 (fun H locs hR hS => ?_)
      refine lv_icmp_eq (tgt := 25) hx hb dX1_patternHasOneShade_20 (by decide) (fun hc => ?_) (fun hc => ?_)
      · have hf := mm_if1 hc hf
        refine lv_iinc (v := (x1 + (1 : Int32))) (lv' := [(1, .int (x1 + (1 : Int32))), (0, .ref x0)]) hx hb dX1_patternHasOneShade_25 hl (k := 1) rfl rfl (by decide) rfl (fun ls hl => ?_)
        refine lv_goto (tgt := 2) hx hb dX1_patternHasOneShade_28 (by decide) ?_
        exact hin _ (Option.some.inj hf).symm H locs ls hR hS (lv_sub hl [1, 0] rfl)
      · have hf := mm_if0 hc hf
        refine lv_iconst (v := 0) hx hb dX1_patternHasOneShade_23 (by decide) ?_
        exact mm_zre C hR hS hr (Or.inl rfl) ((hY _ (hout _ (Option.some.inj hf).symm).symm)) rfl dX1_patternHasOneShade_24
  unfold ff_X1_patternHasOneShade at hf
  refine lv_iconst (v := 1) hx hb dX1_patternHasOneShade_0 (by decide) ?_
  refine lv_istore_n (lv' := [(1, .int (1 : Int32)), (0, .ref x0)]) hx hb dX1_patternHasOneShade_1 rfl hl (by decide) rfl (fun ls hl => ?_)
  obtain ⟨e6, he6, hf⟩ := mm_bd hf
  refine L2 x0 e6 (fun x1_7 he => ?_) (fun v he => by subst he; exact Option.some.inj (mm_sr hf)) _ (1 : Int32) he6 H locs ls hR hS (lv_sub hl [1, 0] rfl)
  subst he
  intro H locs ls hR hS hl
  have hf := mm_sl hf
  have hf := mm_u1e hf
  refine lv_iconst (v := 1) hx hb dX1_patternHasOneShade_31 (by decide) ?_
  exact mm_zre C hR hS hr (Or.inr rfl) ((Option.some.inj hf)) rfl dX1_patternHasOneShade_32
def ff_X1_borderMeets_l22  (M : mm_M) (x0 : Nat) (x1 : Int32) (x2 : Int32) : Option ((Int32 × Int32) ⊕ ((Int32 × Int32) ⊕ Int32)) := Option.bind (mm_ck 1 M x0) fun u7 => Option.bind (ff_X1_borderCells M x0) fun v8 => if v8 ≤ x2 then (some (.inr (.inl (x1, x2)))) else (Option.bind (mm_ck 1 M x0) fun u9 => Option.bind (ff_X1_wantedInBorder M x0 x2) fun v10 => if v10 = x1 then (some (.inr (.inr (0 : Int32)))) else (some (.inl (v10, (x2 + (1 : Int32))))))
def ff_X1_borderMeets (M : mm_M) (x0 : Nat) : Option Int32 := Option.bind (mm_ck 1 M x0) fun u1 => Option.bind (ff_X1_patternHasOneShade M x0) fun v2 => if v2 = (0 : Int32) then (Option.bind (mm_ck 1 M x0) fun u3 => Option.bind (ff_X1_borderCells M x0) fun v4 => Option.bind (mm_ck 1 M x0) fun u5 => Option.bind (ff_X1_wantedInBorder M x0 (v4 - (1 : Int32))) fun v6 => Option.bind (mm_it (mm_u2 (ff_X1_borderMeets_l22 M x0)) mm_fu (v6, (0 : Int32))) fun e11 => Sum.elim (mm_u2 (fun x1_12 x2_13 => some (1 : Int32))) some e11) else (some (1 : Int32))
def rm_X1_borderMeets : Room := { frames := 2, cells := 0, slots := 0, locals := 47 }
set_option maxHeartbeats 4000000 in
set_option maxRecDepth 100000 in
theorem jj_X1_borderMeets (l : Launch) (g : mm_G) (A : Nat → Prop) (M : mm_M) (x0 : Nat) (r : Int32) (hf : ff_X1_borderMeets M x0 = some r) : Met l yX1_borderMeets (mm_ws yX1_borderMeets cX1_borderMeets 4 (Option.some Jvm.ClassFile.FieldType.boolean)) rm_X1_borderMeets (va_Pc [.ref x0] (mm_B g A M)) (mm_Ti g A r M) 0 0 A := by
  refine mm_met (g := g) (lv := [(0, .ref x0)]) (fun U h => h.2) (by decide +kernel) (Nat.le_of_ble_eq_true rfl) rfl ?_
  intro p e s m args below meth c ls C hr hnm hB hl
  obtain ⟨hR, hK⟩ := hB
  have hx := C.1
  have hb := C.2.1
  suffices hmain : ∀ (H : Heap) (locs : List Loc), mm_R g A M H → va_S A s.heap H locs → W p l e rm_X1_borderMeets s m args below meth c H locs 0 0 (MQ below (mm_Ti g A r M) args s 0 0 A) (F0 m 0 ls []) from hmain _ _ hR va_S.rf
  clear hR
  intro H locs hR hS
  have L22 : ∀ (x0 : Nat) (e1 : (Int32 × Int32) ⊕ Int32) (hX : ∀ (x1 : Int32) (x2 : Int32), e1 = .inl (x1, x2) → ∀ (H : Heap) (locs : List Loc) (ls : Array Slot), mm_R g A M H → va_S A s.heap H locs → lv_has ls 4 [] → W p l e rm_X1_borderMeets s m args below meth c H locs 0 0 (MQ below (mm_Ti g A r M) args s 0 0 A) (F0 m 51 ls [])) (hY : ∀ (v : Int32), e1 = .inr v → v = r) (n : Nat) (x1 : Int32) (x2 : Int32), mm_it (mm_u2 (ff_X1_borderMeets_l22 M x0)) n (x1, x2) = some e1 → ∀ (H : Heap) (locs : List Loc) (ls : Array Slot), mm_R g A M H → va_S A s.heap H locs → lv_has ls 4 [(0, .ref x0), (1, .int x1), (2, .int x2)] → W p l e rm_X1_borderMeets s m args below meth c H locs 0 0 (MQ below (mm_Ti g A r M) args s 0 0 A) (F0 m 22 ls []) := by
    intro x0 e1 hX hY n x1 x2 hit
    refine mm_itW (Hd := fun st => ∀ (H : Heap) (locs : List Loc) (ls : Array Slot), mm_R g A M H → va_S A s.heap H locs → lv_has ls 4 [(0, .ref x0), (1, .int st.1), (2, .int st.2)] → W p l e rm_X1_borderMeets s m args below meth c H locs 0 0 (MQ below (mm_Ti g A r M) args s 0 0 A) (F0 m 22 ls [])) (fun st y hf hin hout => ?_) n (x1, x2) hit
    obtain ⟨x1, x2⟩ := st
    have hf := mm_u2e hf
    intro H locs ls hR hS hl
    unfold ff_X1_borderMeets_l22 at hf
    refine lv_iload_n hx hb dX1_borderMeets_22 rfl (lv_at hl 2 rfl) ?_
    refine lv_aload_n hx hb dX1_borderMeets_23 rfl (lv_at hl 0 rfl) ?_
    obtain ⟨u7, eu7, hf⟩ := mm_bd hf
    obtain ⟨v8, ev8, hf⟩ := mm_bd hf
    refine mm_callVi (As := []) (rest := [.int x2]) C hR hS hl.1 vs_X1_66 eu7 (jj_X1_borderCells l g A M x0 v8 ev8) ⟨rfl, rfl, (Nat.le_of_ble_eq_true rfl), (Nat.le_of_ble_eq_true rfl)⟩ rfl (Nat.le_of_ble_eq_true rfl) ⟨Nat.zero_le _, Nat.zero_le _⟩ rfl dX1_borderMeets_24 (fun H locs hR hS => ?_)
    refine lv_icmp_ge (tgt := 51) hx hb dX1_borderMeets_27 (by decide) (fun hc => ?_) (fun hc => ?_)
    · have hf := mm_if1 hc hf
      exact hX _ _ (hout _ (Option.some.inj hf).symm).symm H locs ls hR hS (lv_sub hl [] rfl)
    · have hf := mm_if0 hc hf
      refine lv_aload_n hx hb dX1_borderMeets_30 rfl (lv_at hl 0 rfl) ?_
      refine lv_iload_n hx hb dX1_borderMeets_31 rfl (lv_at hl 2 rfl) ?_
      obtain ⟨u9, eu9, hf⟩ := mm_bd hf
      obtain ⟨v10, ev10, hf⟩ := mm_bd hf
      refine mm_callVi (As := [.int x2]) (rest := []) C hR hS hl.1 vs_X1_79 eu9 (jj_X1_wantedInBorder l g A M x0 x2 v10 ev10) ⟨rfl, rfl, (Nat.le_of_ble_eq_true rfl), (Nat.le_of_ble_eq_true rfl)⟩ rfl (Nat.le_of_ble_eq_true rfl) ⟨Nat.zero_le _, Nat.zero_le _⟩ rfl dX1_borderMeets_32 (fun H locs hR hS => ?_)
      refine lv_istore_n (lv' := [(3, .int v10), (0, .ref x0), (1, .int x1), (2, .int x2)]) hx hb dX1_borderMeets_35 rfl hl (by decide) rfl (fun ls hl => ?_)
      refine lv_iload_n hx hb dX1_borderMeets_36 rfl (lv_at hl 0 rfl) ?_
      refine lv_iload_n hx hb dX1_borderMeets_37 rfl (lv_at hl 2 rfl) ?_
      refine lv_icmp_ne (tgt := 43) hx hb dX1_borderMeets_38 (by decide) (fun hc => ?_) (fun hc => ?_)
      · have hf := mm_if0 hc hf
        refine lv_iload_n hx hb dX1_borderMeets_43 rfl (lv_at hl 0 rfl) ?_
        refine lv_istore_n (lv' := [(1, .int v10), (3, .int v10), (0, .ref x0), (2, .int x2)]) hx hb dX1_borderMeets_44 rfl hl (by decide) rfl (fun ls hl => ?_)
        refine lv_iinc (v := (x2 + (1 : Int32))) (lv' := [(2, .int (x2 + (1 : Int32))), (1, .int v10), (3, .int v10), (0, .ref x0)]) hx hb dX1_borderMeets_45 hl (k := 3) rfl rfl (by decide) rfl (fun ls hl => ?_)
        refine lv_goto (tgt := 22) hx hb dX1_borderMeets_48 (by decide) ?_
        exact hin _ (Option.some.inj hf).symm H locs ls hR hS (lv_sub hl [3, 1, 0] rfl)
      · have hf := mm_if1 hc hf
        refine lv_iconst (v := 0) hx hb dX1_borderMeets_41 (by decide) ?_
        exact mm_zre C hR hS hr (Or.inl rfl) ((hY _ (hout _ (Option.some.inj hf).symm).symm)) rfl dX1_borderMeets_42
  unfold ff_X1_borderMeets at hf
  refine lv_aload_n hx hb dX1_borderMeets_0 rfl (lv_at hl 0 rfl) ?_
  obtain ⟨u1, eu1, hf⟩ := mm_bd hf
  obtain ⟨v2, ev2, hf⟩ := mm_bd hf
  refine mm_callVi (As := []) (rest := []) C hR hS hl.1 vs_X1_89 eu1 (jj_X1_patternHasOneShade l g A M x0 v2 ev2) ⟨rfl, rfl, (Nat.le_of_ble_eq_true rfl), (Nat.le_of_ble_eq_true rfl)⟩ rfl (Nat.le_of_ble_eq_true rfl) ⟨Nat.zero_le _, Nat.zero_le _⟩ rfl dX1_borderMeets_1 (fun H locs hR hS => ?_)
  refine lv_if_eq (tgt := 9) hx hb dX1_borderMeets_4 (by decide) (fun hc => ?_) (fun hc => ?_)
  · have hf := mm_if1 hc hf
    refine lv_aload_n hx hb dX1_borderMeets_9 rfl (lv_at hl 0 rfl) ?_
    refine lv_aload_n hx hb dX1_borderMeets_10 rfl (lv_at hl 0 rfl) ?_
    obtain ⟨u3, eu3, hf⟩ := mm_bd hf
    obtain ⟨v4, ev4, hf⟩ := mm_bd hf
    refine mm_callVi (As := []) (rest := [.ref x0]) C hR hS hl.1 vs_X1_66 eu3 (jj_X1_borderCells l g A M x0 v4 ev4) ⟨rfl, rfl, (Nat.le_of_ble_eq_true rfl), (Nat.le_of_ble_eq_true rfl)⟩ rfl (Nat.le_of_ble_eq_true rfl) ⟨Nat.zero_le _, Nat.zero_le _⟩ rfl dX1_borderMeets_11 (fun H locs hR hS => ?_)
    refine lv_iconst (v := 1) hx hb dX1_borderMeets_14 (by decide) ?_
    refine lv_isub hx hb dX1_borderMeets_15 ?_
    obtain ⟨u5, eu5, hf⟩ := mm_bd hf
    obtain ⟨v6, ev6, hf⟩ := mm_bd hf
    refine mm_callVi (As := [.int (v4 - (1 : Int32))]) (rest := []) C hR hS hl.1 vs_X1_79 eu5 (jj_X1_wantedInBorder l g A M x0 (v4 - (1 : Int32)) v6 ev6) ⟨rfl, rfl, (Nat.le_of_ble_eq_true rfl), (Nat.le_of_ble_eq_true rfl)⟩ rfl (Nat.le_of_ble_eq_true rfl) ⟨Nat.zero_le _, Nat.zero_le _⟩ rfl dX1_borderMeets_16 (fun H locs hR hS => ?_)
    refine lv_istore_n (lv' := [(1, .int v6), (0, .ref x0)]) hx hb dX1_borderMeets_19 rfl hl (by decide) rfl (fun ls hl => ?_)
    refine lv_iconst (v := 0) hx hb dX1_borderMeets_20 (by decide) ?_
    refine lv_istore_n (lv' := [(2, .int (0 : Int32)), (1, .int v6), (0, .ref x0)]) hx hb dX1_borderMeets_21 rfl hl (by decide) rfl (fun ls hl => ?_)
    obtain ⟨e11, he11, hf⟩ := mm_bd hf
    refine L22 x0 e11 (fun x1_12 x2_13 he => ?_) (fun v he => by subst he; exact Option.some.inj (mm_sr hf)) _ v6 (0 : Int32) he11 H locs ls hR hS (lv_sub hl [2, 1, 0] rfl)
    subst he
    intro H locs ls hR hS hl
    have hf := mm_sl hf
    have hf := mm_u2e hf
    refine lv_iconst (v := 1) hx hb dX1_borderMeets_51 (by decide) ?_
    exact mm_zre C hR hS hr (Or.inr rfl) ((Option.some.inj hf)) rfl dX1_borderMeets_52
  · have hf := mm_if0 hc hf
    refine lv_iconst (v := 1) hx hb dX1_borderMeets_7 (by decide) ?_
    exact mm_zre C hR hS hr (Or.inr rfl) ((Option.some.inj hf)) rfl dX1_borderMeets_8
def ff_X1_columnOf (M : mm_M) (x0 : Nat) (x1 : Int32) : Option Int32 := Option.bind (mm_ck 1 M x0) fun u1 => Option.bind (ff_X1_halfOfBorder M x0) fun v2 => if v2 ≤ x1 then (Option.bind (mm_gI 1 M x0 4) fun v3 => Option.bind (mm_ck 1 M x0) fun u4 => Option.bind (ff_X1_halfOfBorder M x0) fun v5 => some (mm_mx ((v3 - (1 : Int32)) - (x1 - v5)) (0 : Int32))) else (Option.bind (mm_gI 1 M x0 4) fun v6 => some (mm_mn x1 (v6 - (1 : Int32))))
def rm_X1_columnOf : Room := { frames := 1, cells := 0, slots := 0, locals := 21 }
set_option maxHeartbeats 4000000 in
set_option maxRecDepth 100000 in
theorem jj_X1_columnOf (l : Launch) (g : mm_G) (A : Nat → Prop) (M : mm_M) (x0 : Nat) (x1 : Int32) (r : Int32) (hf : ff_X1_columnOf M x0 x1 = some r) : Met l yX1_columnOf (mm_ws yX1_columnOf cX1_columnOf 2 (Option.some Jvm.ClassFile.FieldType.int)) rm_X1_columnOf (va_Pc [.ref x0, .int x1] (mm_B g A M)) (mm_Ti g A r M) 0 0 A := by
  refine mm_met (g := g) (lv := [(0, .ref x0), (1, .int x1)]) (fun U h => h.2) (by decide +kernel) (Nat.le_of_ble_eq_true rfl) rfl ?_
  intro p e s m args below meth c ls C hr hnm hB hl
  obtain ⟨hR, hK⟩ := hB
  have hx := C.1
  have hb := C.2.1
  suffices hmain : ∀ (H : Heap) (locs : List Loc), mm_R g A M H → va_S A s.heap H locs → W p l e rm_X1_columnOf s m args below meth c H locs 0 0 (MQ below (mm_Ti g A r M) args s 0 0 A) (F0 m 0 ls []) from hmain _ _ hR va_S.rf
  clear hR
  intro H locs hR hS
  unfold ff_X1_columnOf at hf
  refine lv_iload_n hx hb dX1_columnOf_0 rfl (lv_at hl 1 rfl) ?_
  refine lv_aload_n hx hb dX1_columnOf_1 rfl (lv_at hl 0 rfl) ?_
  obtain ⟨u1, eu1, hf⟩ := mm_bd hf
  obtain ⟨v2, ev2, hf⟩ := mm_bd hf
  refine mm_callVi (As := []) (rest := [.int x1]) C hR hS hl.1 vs_X1_53 eu1 (jj_X1_halfOfBorder l g A M x0 v2 ev2) ⟨rfl, rfl, (Nat.le_of_ble_eq_true rfl), (Nat.le_of_ble_eq_true rfl)⟩ rfl (Nat.le_of_ble_eq_true rfl) ⟨Nat.zero_le _, Nat.zero_le _⟩ rfl dX1_columnOf_2 (fun H locs hR hS => ?_)
  refine lv_icmp_ge (tgt := 19) hx hb dX1_columnOf_5 (by decide) (fun hc => ?_) (fun hc => ?_)
  · have hf := mm_if1 hc hf
    refine lv_aload_n hx hb dX1_columnOf_19 rfl (lv_at hl 0 rfl) ?_
    obtain ⟨v3, ev3, hf⟩ := mm_bd hf
    refine mm_getI C hR fs_X1_29 ev3 dX1_columnOf_20 ?_
    refine lv_iconst (v := 1) hx hb dX1_columnOf_23 (by decide) ?_
    refine lv_isub hx hb dX1_columnOf_24 ?_
    refine lv_iload_n hx hb dX1_columnOf_25 rfl (lv_at hl 1 rfl) ?_
    refine lv_aload_n hx hb dX1_columnOf_26 rfl (lv_at hl 0 rfl) ?_
    obtain ⟨u4, eu4, hf⟩ := mm_bd hf
    obtain ⟨v5, ev5, hf⟩ := mm_bd hf
    refine mm_callVi (As := []) (rest := [.int x1, .int (v3 - (1 : Int32))]) C hR hS hl.1 vs_X1_53 eu4 (jj_X1_halfOfBorder l g A M x0 v5 ev5) ⟨rfl, rfl, (Nat.le_of_ble_eq_true rfl), (Nat.le_of_ble_eq_true rfl)⟩ rfl (Nat.le_of_ble_eq_true rfl) ⟨Nat.zero_le _, Nat.zero_le _⟩ rfl dX1_columnOf_27 (fun H locs hR hS => ?_)
    refine lv_isub hx hb dX1_columnOf_30 ?_
    refine lv_isub hx hb dX1_columnOf_31 ?_
    refine lv_iconst (v := 0) hx hb dX1_columnOf_32 (by decide) ?_
    refine mm_max C hl.1 mw_483 mw_373 mw_9 mc_max (Nat.le_of_ble_eq_true rfl) (Nat.le_of_ble_eq_true rfl) ⟨Nat.zero_le _, Nat.zero_le _⟩ dX1_columnOf_33 ?_
    exact mm_ire C hR hS hr ((Option.some.inj hf)) rfl dX1_columnOf_36
  · have hf := mm_if0 hc hf
    refine lv_iload_n hx hb dX1_columnOf_8 rfl (lv_at hl 1 rfl) ?_
    refine lv_aload_n hx hb dX1_columnOf_9 rfl (lv_at hl 0 rfl) ?_
    obtain ⟨v6, ev6, hf⟩ := mm_bd hf
    refine mm_getI C hR fs_X1_29 ev6 dX1_columnOf_10 ?_
    refine lv_iconst (v := 1) hx hb dX1_columnOf_13 (by decide) ?_
    refine lv_isub hx hb dX1_columnOf_14 ?_
    refine mm_min C hl.1 mw_308 mw_309 mw_9 mc_min (Nat.le_of_ble_eq_true rfl) (Nat.le_of_ble_eq_true rfl) ⟨Nat.zero_le _, Nat.zero_le _⟩ dX1_columnOf_15 ?_
    exact mm_ire C hR hS hr ((Option.some.inj hf)) rfl dX1_columnOf_18
def ff_X1_rowOf (M : mm_M) (x0 : Nat) (x1 : Int32) : Option Int32 := Option.bind (mm_ck 1 M x0) fun u1 => Option.bind (ff_X1_halfOfBorder M x0) fun v2 => if v2 ≤ x1 then (Option.bind (mm_ck 1 M x0) fun u3 => Option.bind (ff_X1_borderCells M x0) fun v4 => Option.bind (mm_gI 1 M x0 5) fun v5 => some (mm_mn (v4 - x1) (v5 - (1 : Int32)))) else (Option.bind (mm_gI 1 M x0 4) fun v6 => some (mm_mx (x1 - (v6 - (1 : Int32))) (0 : Int32)))
def rm_X1_rowOf : Room := { frames := 2, cells := 0, slots := 0, locals := 40 }
set_option maxHeartbeats 4000000 in
set_option maxRecDepth 100000 in
theorem jj_X1_rowOf (l : Launch) (g : mm_G) (A : Nat → Prop) (M : mm_M) (x0 : Nat) (x1 : Int32) (r : Int32) (hf : ff_X1_rowOf M x0 x1 = some r) : Met l yX1_rowOf (mm_ws yX1_rowOf cX1_rowOf 2 (Option.some Jvm.ClassFile.FieldType.int)) rm_X1_rowOf (va_Pc [.ref x0, .int x1] (mm_B g A M)) (mm_Ti g A r M) 0 0 A := by
  refine mm_met (g := g) (lv := [(0, .ref x0), (1, .int x1)]) (fun U h => h.2) (by decide +kernel) (Nat.le_of_ble_eq_true rfl) rfl ?_
  intro p e s m args below meth c ls C hr hnm hB hl
  obtain ⟨hR, hK⟩ := hB
  have hx := C.1
  have hb := C.2.1
  suffices hmain : ∀ (H : Heap) (locs : List Loc), mm_R g A M H → va_S A s.heap H locs → W p l e rm_X1_rowOf s m args below meth c H locs 0 0 (MQ below (mm_Ti g A r M) args s 0 0 A) (F0 m 0 ls []) from hmain _ _ hR va_S.rf
  clear hR
  intro H locs hR hS
  unfold ff_X1_rowOf at hf
  refine lv_iload_n hx hb dX1_rowOf_0 rfl (lv_at hl 1 rfl) ?_
  refine lv_aload_n hx hb dX1_rowOf_1 rfl (lv_at hl 0 rfl) ?_
  obtain ⟨u1, eu1, hf⟩ := mm_bd hf
  obtain ⟨v2, ev2, hf⟩ := mm_bd hf
  refine mm_callVi (As := []) (rest := [.int x1]) C hR hS hl.1 vs_X1_53 eu1 (jj_X1_halfOfBorder l g A M x0 v2 ev2) ⟨rfl, rfl, (Nat.le_of_ble_eq_true rfl), (Nat.le_of_ble_eq_true rfl)⟩ rfl (Nat.le_of_ble_eq_true rfl) ⟨Nat.zero_le _, Nat.zero_le _⟩ rfl dX1_rowOf_2 (fun H locs hR hS => ?_)
  refine lv_icmp_ge (tgt := 21) hx hb dX1_rowOf_5 (by decide) (fun hc => ?_) (fun hc => ?_)
  · have hf := mm_if1 hc hf
    refine lv_aload_n hx hb dX1_rowOf_21 rfl (lv_at hl 0 rfl) ?_
    obtain ⟨u3, eu3, hf⟩ := mm_bd hf
    obtain ⟨v4, ev4, hf⟩ := mm_bd hf
    refine mm_callVi (As := []) (rest := []) C hR hS hl.1 vs_X1_66 eu3 (jj_X1_borderCells l g A M x0 v4 ev4) ⟨rfl, rfl, (Nat.le_of_ble_eq_true rfl), (Nat.le_of_ble_eq_true rfl)⟩ rfl (Nat.le_of_ble_eq_true rfl) ⟨Nat.zero_le _, Nat.zero_le _⟩ rfl dX1_rowOf_22 (fun H locs hR hS => ?_)
    refine lv_iload_n hx hb dX1_rowOf_25 rfl (lv_at hl 1 rfl) ?_
    refine lv_isub hx hb dX1_rowOf_26 ?_
    refine lv_aload_n hx hb dX1_rowOf_27 rfl (lv_at hl 0 rfl) ?_
    obtain ⟨v5, ev5, hf⟩ := mm_bd hf
    refine mm_getI C hR fs_X1_32 ev5 dX1_rowOf_28 ?_
    refine lv_iconst (v := 1) hx hb dX1_rowOf_31 (by decide) ?_
    refine lv_isub hx hb dX1_rowOf_32 ?_
    refine mm_min C hl.1 mw_308 mw_309 mw_9 mc_min (Nat.le_of_ble_eq_true rfl) (Nat.le_of_ble_eq_true rfl) ⟨Nat.zero_le _, Nat.zero_le _⟩ dX1_rowOf_33 ?_
    exact mm_ire C hR hS hr ((Option.some.inj hf)) rfl dX1_rowOf_36
  · have hf := mm_if0 hc hf
    refine lv_iload_n hx hb dX1_rowOf_8 rfl (lv_at hl 1 rfl) ?_
    refine lv_aload_n hx hb dX1_rowOf_9 rfl (lv_at hl 0 rfl) ?_
    obtain ⟨v6, ev6, hf⟩ := mm_bd hf
    refine mm_getI C hR fs_X1_29 ev6 dX1_rowOf_10 ?_
    refine lv_iconst (v := 1) hx hb dX1_rowOf_13 (by decide) ?_
    refine lv_isub hx hb dX1_rowOf_14 ?_
    refine lv_isub hx hb dX1_rowOf_15 ?_
    refine lv_iconst (v := 0) hx hb dX1_rowOf_16 (by decide) ?_
    refine mm_max C hl.1 mw_483 mw_373 mw_9 mc_max (Nat.le_of_ble_eq_true rfl) (Nat.le_of_ble_eq_true rfl) ⟨Nat.zero_le _, Nat.zero_le _⟩ dX1_rowOf_17 ?_
    exact mm_ire C hR hS hr ((Option.some.inj hf)) rfl dX1_rowOf_20
