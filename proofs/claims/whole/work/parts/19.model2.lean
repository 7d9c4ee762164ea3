def ff_X7_put (M : mm_M) (x0 : Nat) (x1 : Int32) (x2 : Int32) (x3 : Int32) : Option mm_M := Option.bind (mm_gR 7 M x0 0) fun v1 => Option.bind (mm_sI 0 M v1 (((408 : Int32) + ((11 : Int32) * x1)) + x2) x3) fun M2 => some M2
def rm_X7_put : Room := { frames := 0, cells := 0, slots := 0, locals := 0 }
set_option maxHeartbeats 4000000 in
set_option maxRecDepth 100000 in
theorem jj_X7_put (l : Launch) (g : mm_G) (A : Nat → Prop) (M : mm_M) (x0 : Nat) (x1 : Int32) (x2 : Int32) (x3 : Int32) (M2 : mm_M) (hf : ff_X7_put M x0 x1 x2 x3 = some M2) : Met l yX7_put (mm_ws yX7_put cX7_put 4 (Option.none : Option Jvm.ClassFile.FieldType)) rm_X7_put (va_Pc [.ref x0, .int x1, .int x2, .int x3] (mm_B g A M)) (mm_Tv g A M2) 0 0 A := by
  refine mm_met (g := g) (lv := [(0, .ref x0), (1, .int x1), (2, .int x2), (3, .int x3)]) (fun U h => h.2) (by decide +kernel) (Nat.le_of_ble_eq_true rfl) rfl ?_
  intro p e s m args below meth c ls C hr hnm hB hl
  obtain ⟨hR, hK⟩ := hB
  have hx := C.1
  have hb := C.2.1
  suffices hmain : ∀ (H : Heap) (locs : List Loc), mm_R g A M H → va_S A s.heap H locs → W p l e rm_X7_put s m args below meth c H locs 0 0 (MQ below (mm_Tv g A M2) args s 0 0 A) (F0 m 0 ls []) from hmain _ _ hR va_S.rf
  clear hR
  intro H locs hR hS
  unfold ff_X7_put at hf
  refine lv_aload_n hx hb dX7_put_0 rfl (lv_at hl 0 rfl) ?_
  obtain ⟨v1, ev1, hf⟩ := mm_bd hf
  refine mm_getR C hR fs_X7_7 ev1 dX7_put_1 ?_
  refine lv_sipush (v := 408) hx hb dX7_put_4 (by decide) ?_
  refine lv_bipush (v := 11) hx hb dX7_put_7 (by decide) ?_
  refine lv_iload_n hx hb dX7_put_9 rfl (lv_at hl 1 rfl) ?_
  refine lv_imul hx hb dX7_put_10 ?_
  refine lv_iadd hx hb dX7_put_11 ?_
  refine lv_iload_n hx hb dX7_put_12 rfl (lv_at hl 2 rfl) ?_
  refine lv_iadd hx hb dX7_put_13 ?_
  refine lv_iload_n hx hb dX7_put_14 rfl (lv_at hl 3 rfl) ?_
  obtain ⟨M2, eM2, hf⟩ := mm_bd hf
  refine mm_iast C hR hS eM2 dX7_put_15 (fun H locs hR hS => ?_)
  exact mm_vre C hR hS hr (Option.some.inj hf) dX7_put_16
def ff_X7_isStrip (M : mm_M) (x0 : Nat) (x1 : Int32) : Option Int32 := Option.bind (mm_gR 7 M x0 0) fun v1 => Option.bind (mm_aI 0 M v1 (6 : Int32)) fun v2 => Option.bind (ff_X7_in M x1 (0 : Int32) (v2 - (1 : Int32))) fun v3 => Option.bind (mm_bz v3) fun b4 => some b4
def rm_X7_isStrip : Room := { frames := 1, cells := 0, slots := 0, locals := 22 }
set_option maxHeartbeats 4000000 in
set_option maxRecDepth 100000 in
theorem jj_X7_isStrip (l : Launch) (g : mm_G) (A : Nat → Prop) (M : mm_M) (x0 : Nat) (x1 : Int32) (r : Int32) (hf : ff_X7_isStrip M x0 x1 = some r) : Met l yX7_isStrip (mm_ws yX7_isStrip cX7_isStrip 2 (Option.some Jvm.ClassFile.FieldType.boolean)) rm_X7_isStrip (va_Pc [.ref x0, .int x1] (mm_B g A M)) (mm_Ti g A r M) 0 0 A := by
  refine mm_met (g := g) (lv := [(0, .ref x0), (1, .int x1)]) (fun U h => h.2) (by decide +kernel) (Nat.le_of_ble_eq_true rfl) rfl ?_
  intro p e s m args below meth c ls C hr hnm hB hl
  obtain ⟨hR, hK⟩ := hB
  have hx := C.1
  have hb := C.2.1
  suffices hmain : ∀ (H : Heap) (locs : List Loc), mm_R g A M H → va_S A s.heap H locs → W p l e rm_X7_isStrip s m args below meth c H locs 0 0 (MQ below (mm_Ti g A r M) args s 0 0 A) (F0 m 0 ls []) from hmain _ _ hR va_S.rf
  clear hR
  intro H locs hR hS
  unfold ff_X7_isStrip at hf
  refine lv_iload_n hx hb dX7_isStrip_0 rfl (lv_at hl 1 rfl) ?_
  refine lv_iconst (v := 0) hx hb dX7_isStrip_1 (by decide) ?_
  refine lv_aload_n hx hb dX7_isStrip_2 rfl (lv_at hl 0 rfl) ?_
  obtain ⟨v1, ev1, hf⟩ := mm_bd hf
  refine mm_getR C hR fs_X7_7 ev1 dX7_isStrip_3 ?_
  refine lv_bipush (v := 6) hx hb dX7_isStrip_6 (by decide) ?_
  obtain ⟨v2, ev2, hf⟩ := mm_bd hf
  refine mm_iald C hR ev2 dX7_isStrip_8 ?_
  refine lv_iconst (v := 1) hx hb dX7_isStrip_9 (by decide) ?_
  refine lv_isub hx hb dX7_isStrip_10 ?_
  obtain ⟨v3, ev3, hf⟩ := mm_bd hf
  refine mm_callSi (As := [.int x1, .int (0 : Int32), .int (v2 - (1 : Int32))]) (rest := []) C hR hS hl.1 ss_X7_37 (jj_X7_in l g A M x1 (0 : Int32) (v2 - (1 : Int32)) v3 ev3) ⟨rfl, rfl, (Nat.le_of_ble_eq_true rfl), (Nat.le_of_ble_eq_true rfl)⟩ rfl (Nat.le_of_ble_eq_true rfl) ⟨Nat.zero_le _, Nat.zero_le _⟩ rfl dX7_isStrip_11 (fun H locs hR hS => ?_)
  obtain ⟨b4, eb4, hf⟩ := mm_bd hf
  exact mm_zre C hR hS hr (mm_bz_s eb4).1 ((mm_bz_s eb4).2.trans (Option.some.inj hf)) rfl dX7_isStrip_14
def ff_X7_strip (M : mm_M) (x0 : Nat) (x1 : Int32) (x2 : Int32) : Option ((Int32 × mm_M)) := Option.bind (ff_X7_in M x1 (20 : Int32) (1000 : Int32)) fun v1 => if v1 = (0 : Int32) then (some ((-1 : Int32), M)) else (Option.bind (ff_X7_in M x2 (0 : Int32) (99 : Int32)) fun v2 => if v2 = (0 : Int32) then (some ((-1 : Int32), M)) else (Option.bind (mm_gR 7 M x0 0) fun v3 => Option.bind (mm_aI 0 M v3 (6 : Int32)) fun v4 => if v4 = (10 : Int32) then (some ((-3 : Int32), M)) else (Option.bind (mm_ck 7 M x0) fun u5 => Option.bind (ff_X7_keep M x0) fun M6 => Option.bind (mm_gR 7 M6 x0 0) fun v7 => Option.bind (mm_aI 0 M6 v7 (6 : Int32)) fun v8 => Option.bind (mm_gR 7 M6 x0 0) fun v9 => Option.bind (mm_aI 0 M6 v9 (6 : Int32)) fun v10 => Option.bind (mm_sI 0 M6 v9 (6 : Int32) (v10 + (1 : Int32))) fun M11 => Option.bind (mm_ck 7 M11 x0) fun u12 => Option.bind (ff_X7_put M11 x0 v8 (0 : Int32) x1) fun M13 => Option.bind (mm_ck 7 M13 x0) fun u14 => Option.bind (ff_X7_put M13 x0 v8 (1 : Int32) x2) fun M15 => Option.bind (mm_ck 7 M15 x0) fun u16 => Option.bind (ff_X7_put M15 x0 v8 (2 : Int32) (0 : Int32)) fun M17 => Option.bind (mm_ck 7 M17 x0) fun u18 => Option.bind (ff_X7_put M17 x0 v8 (3 : Int32) (0 : Int32)) fun M19 => Option.bind (mm_ck 7 M19 x0) fun u20 => Option.bind (ff_X7_put M19 x0 v8 (4 : Int32) (0 : Int32)) fun M21 => some (v8, M21))))
def rm_X7_strip : Room := { frames := 2, cells := 0, slots := 0, locals := 45 }
set_option maxHeartbeats 4000000 in
set_option maxRecDepth 100000 in
theorem jj_X7_strip (l : Launch) (g : mm_G) (A : Nat → Prop) (M : mm_M) (x0 : Nat) (x1 : Int32) (x2 : Int32) (r : Int32) (M2 : mm_M) (hf : ff_X7_strip M x0 x1 x2 = some (r, M2)) : Met l yX7_strip (mm_ws yX7_strip cX7_strip 4 (Option.some Jvm.ClassFile.FieldType.int)) rm_X7_strip (va_Pc [.ref x0, .int x1, .int x2] (mm_B g A M)) (mm_Ti g A r M2) 0 0 A := by
  refine mm_met (g := g) (lv := [(0, .ref x0), (1, .int x1), (2, .int x2)]) (fun U h => h.2) (by decide +kernel) (Nat.le_of_ble_eq_true rfl) rfl ?_
  intro p e s m args below meth c ls C hr hnm hB hl
  obtain ⟨hR, hK⟩ := hB
  have hx := C.1
  have hb := C.2.1
  suffices hmain : ∀ (H : Heap) (locs : List Loc), mm_R g A M H → va_S A s.heap H locs → W p l e rm_X7_strip s m args below meth c H locs 0 0 (MQ below (mm_Ti g A r M2) args s 0 0 A) (F0 m 0 ls []) from hmain _ _ hR va_S.rf
  clear hR
  intro H locs hR hS
  unfold ff_X7_strip at hf
  refine lv_iload_n hx hb dX7_strip_0 rfl (lv_at hl 1 rfl) ?_
  refine lv_bipush (v := 20) hx hb dX7_strip_1 (by decide) ?_
  refine lv_sipush (v := 1000) hx hb dX7_strip_3 (by decide) ?_
  obtain ⟨v1, ev1, hf⟩ := mm_bd hf
  refine mm_callSi (As := [.int x1, .int (20 : Int32), .int (1000 : Int32)]) (rest := []) C hR hS hl.1 ss_X7_37 (jj_X7_in l g A M x1 (20 : Int32) (1000 : Int32) v1 ev1) ⟨rfl, rfl, (Nat.le_of_ble_eq_true rfl), (Nat.le_of_ble_eq_true rfl)⟩ rfl (Nat.le_of_ble_eq_true rfl) ⟨Nat.zero_le _, Nat.zero_le _⟩ rfl dX7_strip_6 (fun H locs hR hS => ?_)
  refine lv_if_eq (tgt := 22) hx hb dX7_strip_9 (by decide) (fun hc => ?_) (fun hc => ?_)
  · have hf := mm_if1 hc hf
    refine lv_iconst (v := -1) hx hb dX7_strip_22 (by decide) ?_
    exact mm_ire C hR hS hr ((mm_pe hf).1) (mm_pe hf).2 dX7_strip_23
  · have hf := mm_if0 hc hf
    refine lv_iload_n hx hb dX7_strip_12 rfl (lv_at hl 2 rfl) ?_
    refine lv_iconst (v := 0) hx hb dX7_strip_13 (by decide) ?_
    refine lv_bipush (v := 99) hx hb dX7_strip_14 (by decide) ?_
    obtain ⟨v2, ev2, hf⟩ := mm_bd hf
    refine mm_callSi (As := [.int x2, .int (0 : Int32), .int (99 : Int32)]) (rest := []) C hR hS hl.1 ss_X7_37 (jj_X7_in l g A M x2 (0 : Int32) (99 : Int32) v2 ev2) ⟨rfl, rfl, (Nat.le_of_ble_eq_true rfl), (Nat.le_of_ble_eq_true rfl)⟩ rfl (Nat.le_of_ble_eq_true rfl) ⟨Nat.zero_le _, Nat.zero_le _⟩ rfl dX7_strip_16 (fun H locs hR hS => ?_)
    refine lv_if_ne (tgt := 24) hx hb dX7_strip_19 (by decide) (fun hc => ?_) (fun hc => ?_)
    · have hf := mm_if0 hc hf
      refine lv_aload_n hx hb dX7_strip_24 rfl (lv_at hl 0 rfl) ?_
      obtain ⟨v3, ev3, hf⟩ := mm_bd hf
      refine mm_getR C hR fs_X7_7 ev3 dX7_strip_25 ?_
      refine lv_bipush (v := 6) hx hb dX7_strip_28 (by decide) ?_
      obtain ⟨v4, ev4, hf⟩ := mm_bd hf
      refine mm_iald C hR ev4 dX7_strip_30 ?_
      refine lv_bipush (v := 10) hx hb dX7_strip_31 (by decide) ?_
      refine lv_icmp_ne (tgt := 39) hx hb dX7_strip_33 (by decide) (fun hc => ?_) (fun hc => ?_)
      · have hf := mm_if0 hc hf
        refine lv_aload_n hx hb dX7_strip_39 rfl (lv_at hl 0 rfl) ?_
        obtain ⟨u5, eu5, hf⟩ := mm_bd hf
        obtain ⟨M6, eM6, hf⟩ := mm_bd hf
        refine mm_callVv (As := []) (rest := []) C hR hS hl.1 vs_X7_62 eu5 (jj_X7_keep l g A M x0 M6 eM6) ⟨rfl, rfl, (Nat.le_of_ble_eq_true rfl), (Nat.le_of_ble_eq_true rfl)⟩ rfl (Nat.le_of_ble_eq_true rfl) ⟨Nat.zero_le _, Nat.zero_le _⟩ rfl dX7_strip_40 (fun H locs hR hS => ?_)
        refine lv_aload_n hx hb dX7_strip_43 rfl (lv_at hl 0 rfl) ?_
        obtain ⟨v7, ev7, hf⟩ := mm_bd hf
        refine mm_getR C hR fs_X7_7 ev7 dX7_strip_44 ?_
        refine lv_bipush (v := 6) hx hb dX7_strip_47 (by decide) ?_
        obtain ⟨v8, ev8, hf⟩ := mm_bd hf
        refine mm_iald C hR ev8 dX7_strip_49 ?_
        refine lv_istore_n (lv' := [(3, .int v8), (0, .ref x0), (1, .int x1), (2, .int x2)]) hx hb dX7_strip_50 rfl hl (by decide) rfl (fun ls hl => ?_)
        refine lv_aload_n hx hb dX7_strip_51 rfl (lv_at hl 1 rfl) ?_
        obtain ⟨v9, ev9, hf⟩ := mm_bd hf
        refine mm_getR C hR fs_X7_7 ev9 dX7_strip_52 ?_
        refine lv_bipush (v := 6) hx hb dX7_strip_55 (by decide) ?_
        refine lv_dup2_11 hx hb dX7_strip_57 rfl rfl ?_
        obtain ⟨v10, ev10, hf⟩ := mm_bd hf
        refine mm_iald C hR ev10 dX7_strip_58 ?_
        refine lv_iconst (v := 1) hx hb dX7_strip_59 (by decide) ?_
        refine lv_iadd hx hb dX7_strip_60 ?_
        obtain ⟨M11, eM11, hf⟩ := mm_bd hf
        refine mm_iast C hR hS eM11 dX7_strip_61 (fun H locs hR hS => ?_)
        refine lv_aload_n hx hb dX7_strip_62 rfl (lv_at hl 1 rfl) ?_
        refine lv_iload_n hx hb dX7_strip_63 rfl (lv_at hl 0 rfl) ?_
        refine lv_iconst (v := 0) hx hb dX7_strip_64 (by decide) ?_
        refine lv_iload_n hx hb dX7_strip_65 rfl (lv_at hl 2 rfl) ?_
        obtain ⟨u12, eu12, hf⟩ := mm_bd hf
        obtain ⟨M13, eM13, hf⟩ := mm_bd hf
        refine mm_callVv (As := [.int v8, .int (0 : Int32), .int x1]) (rest := []) C hR hS hl.1 vs_X7_105 eu12 (jj_X7_put l g A M11 x0 v8 (0 : Int32) x1 M13 eM13) ⟨rfl, rfl, (Nat.le_of_ble_eq_true rfl), (Nat.le_of_ble_eq_true rfl)⟩ rfl (Nat.le_of_ble_eq_true rfl) ⟨Nat.zero_le _, Nat.zero_le _⟩ rfl dX7_strip_66 (fun H locs hR hS => ?_)
        refine lv_aload_n hx hb dX7_strip_69 rfl (lv_at hl 1 rfl) ?_
        refine lv_iload_n hx hb dX7_strip_70 rfl (lv_at hl 0 rfl) ?_
        refine lv_iconst (v := 1) hx hb dX7_strip_71 (by decide) ?_
        refine lv_iload_n hx hb dX7_strip_72 rfl (lv_at hl 3 rfl) ?_
        obtain ⟨u14, eu14, hf⟩ := mm_bd hf
        obtain ⟨M15, eM15, hf⟩ := mm_bd hf
        refine mm_callVv (As := [.int v8, .int (1 : Int32), .int x2]) (rest := []) C hR hS hl.1 vs_X7_105 eu14 (jj_X7_put l g A M13 x0 v8 (1 : Int32) x2 M15 eM15) ⟨rfl, rfl, (Nat.le_of_ble_eq_true rfl), (Nat.le_of_ble_eq_true rfl)⟩ rfl (Nat.le_of_ble_eq_true rfl) ⟨Nat.zero_le _, Nat.zero_le _⟩ rfl dX7_strip_73 (fun H locs hR hS => ?_)
        refine lv_aload_n hx hb dX7_strip_76 rfl (lv_at hl 1 rfl) ?_
        refine lv_iload_n hx hb dX7_strip_77 rfl (lv_at hl 0 rfl) ?_
        refine lv_iconst (v := 2) hx hb dX7_strip_78 (by decide) ?_
        refine lv_iconst (v := 0) hx hb dX7_strip_79 (by decide) ?_
        obtain ⟨u16, eu16, hf⟩ := mm_bd hf
        obtain ⟨M17, eM17, hf⟩ := mm_bd hf
        refine mm_callVv (As := [.int v8, .int (2 : Int32), .int (0 : Int32)]) (rest := []) C hR hS hl.1 vs_X7_105 eu16 (jj_X7_put l g A M15 x0 v8 (2 : Int32) (0 : Int32) M17 eM17) ⟨rfl, rfl, (Nat.le_of_ble_eq_true rfl), (Nat.le_of_ble_eq_true rfl)⟩ rfl (Nat.le_of_ble_eq_true rfl) ⟨Nat.zero_le _, Nat.zero_le _⟩ rfl dX7_strip_80 (fun H locs hR hS => ?_)
        refine lv_aload_n hx hb dX7_strip_83 rfl (lv_at hl 1 rfl) ?_
        refine lv_iload_n hx hb dX7_strip_84 rfl (lv_at hl 0 rfl) ?_
        refine lv_iconst (v := 3) hx hb dX7_strip_85 (by decide) ?_
        refine lv_iconst (v := 0) hx hb dX7_strip_86 (by decide) ?_
        obtain ⟨u18, eu18, hf⟩ := mm_bd hf
        obtain ⟨M19, eM19, hf⟩ := mm_bd hf
        refine mm_callVv (As := [.int v8, .int (3 : Int32), .int (0 : Int32)]) (rest := []) C hR hS hl.1 vs_X7_105 eu18 (jj_X7_put l g A M17 x0 v8 (3 : Int32) (0 : Int32) M19 eM19) ⟨rfl, rfl, (Nat.le_of_ble_eq_true rfl), (Nat.le_of_ble_eq_true rfl)⟩ rfl (Nat.le_of_ble_eq_true rfl) ⟨Nat.zero_le _, Nat.zero_le _⟩ rfl dX7_strip_87 (fun H locs hR hS => ?_)
        refine lv_aload_n hx hb dX7_strip_90 rfl (lv_at hl 1 rfl) ?_
        refine lv_iload_n hx hb dX7_strip_91 rfl (lv_at hl 0 rfl) ?_
        refine lv_iconst (v := 4) hx hb dX7_strip_92 (by decide) ?_
        refine lv_iconst (v := 0) hx hb dX7_strip_93 (by decide) ?_
        obtain ⟨u20, eu20, hf⟩ := mm_bd hf
        obtain ⟨M21, eM21, hf⟩ := mm_bd hf
        refine mm_callVv (As := [.int v8, .int (4 : Int32), .int (0 : Int32)]) (rest := []) C hR hS hl.1 vs_X7_105 eu20 (jj_X7_put l g A M19 x0 v8 (4 : Int32) (0 : Int32) M21 eM21) ⟨rfl, rfl, (Nat.le_of_ble_eq_true rfl), (Nat.le_of_ble_eq_true rfl)⟩ rfl (Nat.le_of_ble_eq_true rfl) ⟨Nat.zero_le _, Nat.zero_le _⟩ rfl dX7_strip_94 (fun H locs hR hS => ?_)
        refine lv_iload_n hx hb dX7_strip_97 rfl (lv_at hl 0 rfl) ?_
        exact mm_ire C hR hS hr ((mm_pe hf).1) (mm_pe hf).2 dX7_strip_98
      · have hf := mm_if1 hc hf
        refine lv_bipush (v := -3) hx hb dX7_strip_36 (by decide) ?_
        exact mm_ire C hR hS hr ((mm_pe hf).1) (mm_pe hf).2 dX7_strip_38
    · have hf := mm_if1 hc hf
      refine lv_iconst (v := -1) hx hb dX7_strip_22 (by decide) ?_
      exact mm_ire C hR hS hr ((mm_pe hf).1) (mm_pe hf).2 dX7_strip_23
def ff_X7_hasFlaw_j46 (M : mm_M) (x0 : Nat) (x1 : Int32) (x2 : Int32) (x3 : Int32) (x5 : Int32) (y0 : Int32) : Option ((Int32 × Int32) ⊕ (Int32 × Int32)) := some (.inl (y0, (x5 + (1 : Int32))))
def ff_X7_hasFlaw_j41 (M : mm_M) (x0 : Nat) (x1 : Int32) (x2 : Int32) (x3 : Int32) (x5 : Int32) : Option ((Int32 × Int32) ⊕ (Int32 × Int32)) := ff_X7_hasFlaw_j46 M x0 x1 x2 x3 x5 (1 : Int32)
def ff_X7_hasFlaw_l6 (M : mm_M) (x0 : Nat) (x1 : Int32) (x2 : Int32) (x3 : Int32) (x4 : Int32) (x5 : Int32) : Option ((Int32 × Int32) ⊕ (Int32 × Int32)) := Option.bind (mm_ck 7 M x0) fun u1 => Option.bind (ff_X7_of M x0 x1 (3 : Int32)) fun v2 => if v2 ≤ x5 then (some (.inr (x4, x5))) else (if x4 = (0 : Int32) then (Option.bind (mm_ck 7 M x0) fun u3 => Option.bind (ff_X7_of M x0 x1 ((5 : Int32) + x5)) fun v4 => Option.bind (ff_X7_in M v4 x2 (x3 - (1 : Int32))) fun v5 => if v5 = (0 : Int32) then (ff_X7_hasFlaw_j46 M x0 x1 x2 x3 x5 (0 : Int32)) else (ff_X7_hasFlaw_j41 M x0 x1 x2 x3 x5)) else (ff_X7_hasFlaw_j41 M x0 x1 x2 x3 x5))
def ff_X7_hasFlaw (M : mm_M) (x0 : Nat) (x1 : Int32) (x2 : Int32) (x3 : Int32) : Option Int32 := Option.bind (mm_it (mm_u2 (ff_X7_hasFlaw_l6 M x0 x1 x2 x3)) mm_fu ((0 : Int32), (0 : Int32))) fun e6 => mm_u2 (fun x4_7 x5_8 => Option.bind (mm_bz x4_7) fun b9 => some b9) e6
def rm_X7_hasFlaw : Room := { frames := 1, cells := 0, slots := 0, locals := 22 }
set_option maxHeartbeats 4000000 in
set_option maxRecDepth 100000 in
theorem jj_X7_hasFlaw (l : Launch) (g : mm_G) (A : Nat → Prop) (M : mm_M) (x0 : Nat) (x1 : Int32) (x2 : Int32) (x3 : Int32) (r : Int32) (hf : ff_X7_hasFlaw M x0 x1 x2 x3 = some r) : Met l yX7_hasFlaw (mm_ws yX7_hasFlaw cX7_hasFlaw 6 (Option.some Jvm.ClassFile.FieldType.boolean)) rm_X7_hasFlaw (va_Pc [.ref x0, .int x1, .int x2, .int x3] (mm_B g A M)) (mm_Ti g A r M) 0 0 A := by
  refine mm_met (g := g) (lv := [(0, .ref x0), (1, .int x1), (2, .int x2), (3, .int x3)]) (fun U h => h.2) (by decide +kernel) (Nat.le_of_ble_eq_true rfl) rfl ?_
  intro p e s m args below meth c ls C hr hnm hB hl
  obtain ⟨hR, hK⟩ := hB
  have hx := C.1
  have hb := C.2.1
  suffices hmain : ∀ (H : Heap) (locs : List Loc), mm_R g A M H → va_S A s.heap H locs → W p l e rm_X7_hasFlaw s m args below meth c H locs 0 0 (MQ below (mm_Ti g A r M) args s 0 0 A) (F0 m 0 ls []) from hmain _ _ hR va_S.rf
  clear hR
  intro H locs hR hS
  have L6 : ∀ (x0 : Nat) (x1 : Int32) (x2 : Int32) (x3 : Int32) (e1 : Int32 × Int32) (hX : ∀ (x4 : Int32) (x5 : Int32), e1 = (x4, x5) → ∀ (H : Heap) (locs : List Loc) (ls : Array Slot), mm_R g A M H → va_S A s.heap H locs → lv_has ls 6 [(4, .int x4)] → W p l e rm_X7_hasFlaw s m args below meth c H locs 0 0 (MQ below (mm_Ti g A r M) args s 0 0 A) (F0 m 54 ls [])) (n : Nat) (x4 : Int32) (x5 : Int32), mm_it (mm_u2 (ff_X7_hasFlaw_l6 M x0 x1 x2 x3)) n (x4, x5) = some e1 → ∀ (H : Heap) (locs : List Loc) (ls : Array Slot), mm_R g A M H → va_S A s.heap H locs → lv_has ls 6 [(0, .ref x0), (1, .int x1), (2, .int x2), (3, .int x3), (4, .int x4), (5, .int x5)] → W p l e rm_X7_hasFlaw s m args below meth c H locs 0 0 (MQ below (mm_Ti g A r M) args s 0 0 A) (F0 m 6 ls []) := by
    intro x0 x1 x2 x3 e1 hX n x4 x5 hit
    refine mm_itW (Hd := fun st => ∀ (H : Heap) (locs : List Loc) (ls : Array Slot), mm_R g A M H → va_S A s.heap H locs → lv_has ls 6 [(0, .ref x0), (1, .int x1), (2, .int x2), (3, .int x3), (4, .int st.1), (5, .int st.2)] → W p l e rm_X7_hasFlaw s m args below meth c H locs 0 0 (MQ below (mm_Ti g A r M) args s 0 0 A) (F0 m 6 ls [])) (fun st y hf hin hout => ?_) n (x4, x5) hit
    obtain ⟨x4, x5⟩ := st
    have hf := mm_u2e hf
    have J46 : ∀ (x5 : Int32) (y0 : Int32) (H : Heap) (locs : List Loc) (ls : Array Slot), mm_R g A M H → va_S A s.heap H locs → lv_has ls 6 [(0, .ref x0), (1, .int x1), (2, .int x2), (3, .int x3), (5, .int x5)] → ff_X7_hasFlaw_j46 M x0 x1 x2 x3 x5 y0 = some y → W p l e rm_X7_hasFlaw s m args below meth c H locs 0 0 (MQ below (mm_Ti g A r M) args s 0 0 A) (F0 m 46 ls [.int y0]) := by
      intro x5 y0 H locs ls hR hS hl hf
      unfold ff_X7_hasFlaw_j46 at hf
      refine lv_istore (lv' := [(4, .int y0), (0, .ref x0), (1, .int x1), (2, .int x2), (3, .int x3), (5, .int x5)]) hx hb dX7_hasFlaw_46 hl (by decide) rfl (fun ls hl => ?_)
      refine lv_iinc (v := (x5 + (1 : Int32))) (lv' := [(5, .int (x5 + (1 : Int32))), (4, .int y0), (0, .ref x0), (1, .int x1), (2, .int x2), (3, .int x3)]) hx hb dX7_hasFlaw_48 hl (k := 5) rfl rfl (by decide) rfl (fun ls hl => ?_)
      refine lv_goto (tgt := 6) hx hb dX7_hasFlaw_51 (by decide) ?_
      exact hin _ (Option.some.inj hf).symm H locs ls hR hS (lv_sub hl [2, 3, 4, 5, 1, 0] rfl)
    have J41 : ∀ (x5 : Int32) (H : Heap) (locs : List Loc) (ls : Array Slot), mm_R g A M H → va_S A s.heap H locs → lv_has ls 6 [(0, .ref x0), (1, .int x1), (2, .int x2), (3, .int x3), (5, .int x5)] → ff_X7_hasFlaw_j41 M x0 x1 x2 x3 x5 = some y → W p l e rm_X7_hasFlaw s m args below meth c H locs 0 0 (MQ below (mm_Ti g A r M) args s 0 0 A) (F0 m 41 ls []) := by
      intro x5 H locs ls hR hS hl hf
      unfold ff_X7_hasFlaw_j41 at hf
      refine lv_iconst (v := 1) hx hb dX7_hasFlaw_41 (by decide) ?_
      refine lv_goto (tgt := 46) hx hb dX7_hasFlaw_42 (by decide) ?_
      exact J46 x5 (1 : Int32) H locs ls hR hS (lv_sub hl [0, 1, 2, 3, 4] rfl) hf
    intro H locs ls hR hS hl
    unfold ff_X7_hasFlaw_l6 at hf
    refine lv_iload hx hb dX7_hasFlaw_6 (lv_at hl 5 rfl) ?_
    refine lv_aload_n hx hb dX7_hasFlaw_8 rfl (lv_at hl 0 rfl) ?_
    refine lv_iload_n hx hb dX7_hasFlaw_9 rfl (lv_at hl 1 rfl) ?_
    refine lv_iconst (v := 3) hx hb dX7_hasFlaw_10 (by decide) ?_
    obtain ⟨u1, eu1, hf⟩ := mm_bd hf
    obtain ⟨v2, ev2, hf⟩ := mm_bd hf
    refine mm_callVi (As := [.int x1, .int (3 : Int32)]) (rest := [.int x5]) C hR hS hl.1 vs_X7_85 eu1 (jj_X7_of l g A M x0 x1 (3 : Int32) v2 ev2) ⟨rfl, rfl, (Nat.le_of_ble_eq_true rfl), (Nat.le_of_ble_eq_true rfl)⟩ rfl (Nat.le_of_ble_eq_true rfl) ⟨Nat.zero_le _, Nat.zero_le _⟩ rfl dX7_hasFlaw_11 (fun H locs hR hS => ?_)
    refine lv_icmp_ge (tgt := 54) hx hb dX7_hasFlaw_14 (by decide) (fun hc => ?_) (fun hc => ?_)
    · have hf := mm_if1 hc hf
      exact hX _ _ (hout _ (Option.some.inj hf).symm).symm H locs ls hR hS (lv_sub hl [4] rfl)
    · have hf := mm_if0 hc hf
      refine lv_iload hx hb dX7_hasFlaw_17 (lv_at hl 4 rfl) ?_
      refine lv_if_ne (tgt := 41) hx hb dX7_hasFlaw_19 (by decide) (fun hc => ?_) (fun hc => ?_)
      · have hf := mm_if0 hc hf
        exact J41 x5 H locs ls hR hS (lv_sub hl [0, 1, 2, 3, 5] rfl) hf
      · have hf := mm_if1 hc hf
        refine lv_aload_n hx hb dX7_hasFlaw_22 rfl (lv_at hl 0 rfl) ?_
        refine lv_iload_n hx hb dX7_hasFlaw_23 rfl (lv_at hl 1 rfl) ?_
        refine lv_iconst (v := 5) hx hb dX7_hasFlaw_24 (by decide) ?_
        refine lv_iload hx hb dX7_hasFlaw_25 (lv_at hl 5 rfl) ?_
        refine lv_iadd hx hb dX7_hasFlaw_27 ?_
        obtain ⟨u3, eu3, hf⟩ := mm_bd hf
        obtain ⟨v4, ev4, hf⟩ := mm_bd hf
        refine mm_callVi (As := [.int x1, .int ((5 : Int32) + x5)]) (rest := []) C hR hS hl.1 vs_X7_85 eu3 (jj_X7_of l g A M x0 x1 ((5 : Int32) + x5) v4 ev4) ⟨rfl, rfl, (Nat.le_of_ble_eq_true rfl), (Nat.le_of_ble_eq_true rfl)⟩ rfl (Nat.le_of_ble_eq_true rfl) ⟨Nat.zero_le _, Nat.zero_le _⟩ rfl dX7_hasFlaw_28 (fun H locs hR hS => ?_)
        refine lv_iload_n hx hb dX7_hasFlaw_31 rfl (lv_at hl 2 rfl) ?_
        refine lv_iload_n hx hb dX7_hasFlaw_32 rfl (lv_at hl 3 rfl) ?_
        refine lv_iconst (v := 1) hx hb dX7_hasFlaw_33 (by decide) ?_
        refine lv_isub hx hb dX7_hasFlaw_34 ?_
        obtain ⟨v5, ev5, hf⟩ := mm_bd hf
        refine mm_callSi (As := [.int v4, .int x2, .int (x3 - (1 : Int32))]) (rest := []) C hR hS hl.1 ss_X7_37 (jj_X7_in l g A M v4 x2 (x3 - (1 : Int32)) v5 ev5) ⟨rfl, rfl, (Nat.le_of_ble_eq_true rfl), (Nat.le_of_ble_eq_true rfl)⟩ rfl (Nat.le_of_ble_eq_true rfl) ⟨Nat.zero_le _, Nat.zero_le _⟩ rfl dX7_hasFlaw_35 (fun H locs hR hS => ?_)
        refine lv_if_eq (tgt := 45) hx hb dX7_hasFlaw_38 (by decide) (fun hc => ?_) (fun hc => ?_)
        · have hf := mm_if1 hc hf
          refine lv_iconst (v := 0) hx hb dX7_hasFlaw_45 (by decide) ?_
          exact J46 x5 (0 : Int32) H locs ls hR hS (lv_sub hl [0, 1, 2, 3, 5] rfl) hf
        · have hf := mm_if0 hc hf
          exact J41 x5 H locs ls hR hS (lv_sub hl [0, 1, 2, 3, 5] rfl) hf
  unfold ff_X7_hasFlaw at hf
  refine lv_iconst (v := 0) hx hb dX7_hasFlaw_0 (by decide) ?_
  refine lv_istore (lv' := [(4, .int (0 : Int32)), (0, .ref x0), (1, .int x1), (2, .int x2), (3, .int x3)]) hx hb dX7_hasFlaw_1 hl (by decide) rfl (fun ls hl => ?_)
  refine lv_iconst (v := 0) hx hb dX7_hasFlaw_3 (by decide) ?_
  refine lv_istore (lv' := [(5, .int (0 : Int32)), (4, .int (0 : Int32)), (0, .ref x0), (1, .int x1), (2, .int x2), (3, .int x3)]) hx hb dX7_hasFlaw_4 hl (by decide) rfl (fun ls hl => ?_)
  obtain ⟨e6, he6, hf⟩ := mm_bd hf
  refine L6 x0 x1 x2 x3 e6 (fun x4_7 x5_8 he => ?_) _ (0 : Int32) (0 : Int32) he6 H locs ls hR hS (lv_sub hl [2, 3, 4, 5, 1, 0] rfl)
  subst he
  intro H locs ls hR hS hl
  have hf := mm_u2e hf
  refine lv_iload hx hb dX7_hasFlaw_54 (lv_at hl 0 rfl) ?_
  obtain ⟨b9, eb9, hf⟩ := mm_bd hf
  exact mm_zre C hR hS hr (mm_bz_s eb9).1 ((mm_bz_s eb9).2.trans (Option.some.inj hf)) rfl dX7_hasFlaw_56
def ff_X7_flaw (M : mm_M) (x0 : Nat) (x1 : Int32) (x2 : Int32) : Option ((Int32 × mm_M)) := Option.bind (mm_ck 7 M x0) fun u1 => Option.bind (ff_X7_isStrip M x0 x1) fun v2 => if v2 = (0 : Int32) then (some ((-1 : Int32), M)) else (Option.bind (ff_X7_in M x2 (0 : Int32) (999 : Int32)) fun v3 => if v3 = (0 : Int32) then (some ((-1 : Int32), M)) else (Option.bind (mm_ck 7 M x0) fun u4 => Option.bind (ff_X7_of M x0 x1 (2 : Int32)) fun v5 => Option.bind (mm_ck 7 M x0) fun u6 => Option.bind (ff_X7_of M x0 x1 (0 : Int32)) fun v7 => Option.bind (ff_X7_in M x2 v5 (v7 - (1 : Int32))) fun v8 => if v8 = (0 : Int32) then (some ((-2 : Int32), M)) else (Option.bind (mm_ck 7 M x0) fun u9 => Option.bind (ff_X7_hasFlaw M x0 x1 x2 (x2 + (1 : Int32))) fun v10 => if v10 = (0 : Int32) then (Option.bind (mm_ck 7 M x0) fun u11 => Option.bind (ff_X7_of M x0 x1 (3 : Int32)) fun v12 => if v12 = (6 : Int32) then (some ((-3 : Int32), M)) else (Option.bind (mm_ck 7 M x0) fun u13 => Option.bind (ff_X7_keep M x0) fun M14 => Option.bind (mm_ck 7 M14 x0) fun u15 => Option.bind (ff_X7_of M14 x0 x1 (3 : Int32)) fun v16 => Option.bind (mm_ck 7 M14 x0) fun u17 => Option.bind (ff_X7_put M14 x0 x1 ((5 : Int32) + v16) x2) fun M18 => Option.bind (mm_ck 7 M18 x0) fun u19 => Option.bind (ff_X7_of M18 x0 x1 (3 : Int32)) fun v20 => Option.bind (mm_ck 7 M18 x0) fun u21 => Option.bind (ff_X7_put M18 x0 x1 (3 : Int32) (v20 + (1 : Int32))) fun M22 => Option.bind (mm_ck 7 M22 x0) fun u23 => Option.bind (ff_X7_of M22 x0 x1 (3 : Int32)) fun v24 => some (v24, M22))) else (some ((-2 : Int32), M)))))
def rm_X7_flaw : Room := { frames := 2, cells := 0, slots := 0, locals := 47 }
set_option maxHeartbeats 4000000 in
set_option maxRecDepth 100000 in
theorem jj_X7_flaw (l : Launch) (g : mm_G) (A : Nat → Prop) (M : mm_M) (x0 : Nat) (x1 : Int32) (x2 : Int32) (r : Int32) (M2 : mm_M) (hf : ff_X7_flaw M x0 x1 x2 = some (r, M2)) : Met l yX7_flaw (mm_ws yX7_flaw cX7_flaw 3 (Option.some Jvm.ClassFile.FieldType.int)) rm_X7_flaw (va_Pc [.ref x0, .int x1, .int x2] (mm_B g A M)) (mm_Ti g A r M2) 0 0 A := by
  refine mm_met (g := g) (lv := [(0, .ref x0), (1, .int x1), (2, .int x2)]) (fun U h => h.2) (by decide +kernel) (Nat.le_of_ble_eq_true rfl) rfl ?_
  intro p e s m args below meth c ls C hr hnm hB hl
  obtain ⟨hR, hK⟩ := hB
  have hx := C.1
  have hb := C.2.1
  suffices hmain : ∀ (H : Heap) (locs : List Loc), mm_R g A M H → va_S A s.heap H locs → W p l e rm_X7_flaw s m args below meth c H locs 0 0 (MQ below (mm_Ti g A r M2) args s 0 0 A) (F0 m 0 ls []) from hmain _ _ hR va_S.rf
  clear hR
  intro H locs hR hS
  unfold ff_X7_flaw at hf
  refine lv_aload_n hx hb dX7_flaw_0 rfl (lv_at hl 0 rfl) ?_
  refine lv_iload_n hx hb dX7_flaw_1 rfl (lv_at hl 1 rfl) ?_
  obtain ⟨u1, eu1, hf⟩ := mm_bd hf
  obtain ⟨v2, ev2, hf⟩ := mm_bd hf
  refine mm_callVi (As := [.int x1]) (rest := []) C hR hS hl.1 vs_X7_109 eu1 (jj_X7_isStrip l g A M x0 x1 v2 ev2) ⟨rfl, rfl, (Nat.le_of_ble_eq_true rfl), (Nat.le_of_ble_eq_true rfl)⟩ rfl (Nat.le_of_ble_eq_true rfl) ⟨Nat.zero_le _, Nat.zero_le _⟩ rfl dX7_flaw_2 (fun H locs hR hS => ?_)
  refine lv_if_eq (tgt := 19) hx hb dX7_flaw_5 (by decide) (fun hc => ?_) (fun hc => ?_)
  · have hf := mm_if1 hc hf
    refine lv_iconst (v := -1) hx hb dX7_flaw_19 (by decide) ?_
    exact mm_ire C hR hS hr ((mm_pe hf).1) (mm_pe hf).2 dX7_flaw_20
  · have hf := mm_if0 hc hf
    refine lv_iload_n hx hb dX7_flaw_8 rfl (lv_at hl 2 rfl) ?_
    refine lv_iconst (v := 0) hx hb dX7_flaw_9 (by decide) ?_
    refine lv_sipush (v := 999) hx hb dX7_flaw_10 (by decide) ?_
    obtain ⟨v3, ev3, hf⟩ := mm_bd hf
    refine mm_callSi (As := [.int x2, .int (0 : Int32), .int (999 : Int32)]) (rest := []) C hR hS hl.1 ss_X7_37 (jj_X7_in l g A M x2 (0 : Int32) (999 : Int32) v3 ev3) ⟨rfl, rfl, (Nat.le_of_ble_eq_true rfl), (Nat.le_of_ble_eq_true rfl)⟩ rfl (Nat.le_of_ble_eq_true rfl) ⟨Nat.zero_le _, Nat.zero_le _⟩ rfl dX7_flaw_13 (fun H locs hR hS => ?_)
    refine lv_if_ne (tgt := 21) hx hb dX7_flaw_16 (by decide) (fun hc => ?_) (fun hc => ?_)
    · have hf := mm_if0 hc hf
      refine lv_iload_n hx hb dX7_flaw_21 rfl (lv_at hl 2 rfl) ?_
      refine lv_aload_n hx hb dX7_flaw_22 rfl (lv_at hl 0 rfl) ?_
      refine lv_iload_n hx hb dX7_flaw_23 rfl (lv_at hl 1 rfl) ?_
      refine lv_iconst (v := 2) hx hb dX7_flaw_24 (by decide) ?_
      obtain ⟨u4, eu4, hf⟩ := mm_bd hf
      obtain ⟨v5, ev5, hf⟩ := mm_bd hf
      refine mm_callVi (As := [.int x1, .int (2 : Int32)]) (rest := [.int x2]) C hR hS hl.1 vs_X7_85 eu4 (jj_X7_of l g A M x0 x1 (2 : Int32) v5 ev5) ⟨rfl, rfl, (Nat.le_of_ble_eq_true rfl), (Nat.le_of_ble_eq_true rfl)⟩ rfl (Nat.le_of_ble_eq_true rfl) ⟨Nat.zero_le _, Nat.zero_le _⟩ rfl dX7_flaw_25 (fun H locs hR hS => ?_)
      refine lv_aload_n hx hb dX7_flaw_28 rfl (lv_at hl 0 rfl) ?_
      refine lv_iload_n hx hb dX7_flaw_29 rfl (lv_at hl 1 rfl) ?_
      refine lv_iconst (v := 0) hx hb dX7_flaw_30 (by decide) ?_
      obtain ⟨u6, eu6, hf⟩ := mm_bd hf
      obtain ⟨v7, ev7, hf⟩ := mm_bd hf
      refine mm_callVi (As := [.int x1, .int (0 : Int32)]) (rest := [.int v5, .int x2]) C hR hS hl.1 vs_X7_85 eu6 (jj_X7_of l g A M x0 x1 (0 : Int32) v7 ev7) ⟨rfl, rfl, (Nat.le_of_ble_eq_true rfl), (Nat.le_of_ble_eq_true rfl)⟩ rfl (Nat.le_of_ble_eq_true rfl) ⟨Nat.zero_le _, Nat.zero_le _⟩ rfl dX7_flaw_31 (fun H locs hR hS => ?_)
      refine lv_iconst (v := 1) hx hb dX7_flaw_34 (by decide) ?_
      refine lv_isub hx hb dX7_flaw_35 ?_
      obtain ⟨v8, ev8, hf⟩ := mm_bd hf
      refine mm_callSi (As := [.int x2, .int v5, .int (v7 - (1 : Int32))]) (rest := []) C hR hS hl.1 ss_X7_37 (jj_X7_in l g A M x2 v5 (v7 - (1 : Int32)) v8 ev8) ⟨rfl, rfl, (Nat.le_of_ble_eq_true rfl), (Nat.le_of_ble_eq_true rfl)⟩ rfl (Nat.le_of_ble_eq_true rfl) ⟨Nat.zero_le _, Nat.zero_le _⟩ rfl dX7_flaw_36 (fun H locs hR hS => ?_)
      refine lv_if_eq (tgt := 54) hx hb dX7_flaw_39 (by decide) (fun hc => ?_) (fun hc => ?_)
      · have hf := mm_if1 hc hf
        refine lv_bipush (v := -2) hx hb dX7_flaw_54 (by decide) ?_
        exact mm_ire C hR hS hr ((mm_pe hf).1) (mm_pe hf).2 dX7_flaw_56
      · have hf := mm_if0 hc hf
        refine lv_aload_n hx hb dX7_flaw_42 rfl (lv_at hl 0 rfl) ?_
        refine lv_iload_n hx hb dX7_flaw_43 rfl (lv_at hl 1 rfl) ?_
        refine lv_iload_n hx hb dX7_flaw_44 rfl (lv_at hl 2 rfl) ?_
        refine lv_iload_n hx hb dX7_flaw_45 rfl (lv_at hl 2 rfl) ?_
        refine lv_iconst (v := 1) hx hb dX7_flaw_46 (by decide) ?_
        refine lv_iadd hx hb dX7_flaw_47 ?_
        obtain ⟨u9, eu9, hf⟩ := mm_bd hf
        obtain ⟨v10, ev10, hf⟩ := mm_bd hf
        refine mm_callVi (As := [.int x1, .int x2, .int (x2 + (1 : Int32))]) (rest := []) C hR hS hl.1 vs_X7_113 eu9 (jj_X7_hasFlaw l g A M x0 x1 x2 (x2 + (1 : Int32)) v10 ev10) ⟨rfl, rfl, (Nat.le_of_ble_eq_true rfl), (Nat.le_of_ble_eq_true rfl)⟩ rfl (Nat.le_of_ble_eq_true rfl) ⟨Nat.zero_le _, Nat.zero_le _⟩ rfl dX7_flaw_48 (fun H locs hR hS => ?_)
        refine lv_if_eq (tgt := 57) hx hb dX7_flaw_51 (by decide) (fun hc => ?_) (fun hc => ?_)
        · have hf := mm_if1 hc hf
          refine lv_aload_n hx hb dX7_flaw_57 rfl (lv_at hl 0 rfl) ?_
          refine lv_iload_n hx hb dX7_flaw_58 rfl (lv_at hl 1 rfl) ?_
          refine lv_iconst (v := 3) hx hb dX7_flaw_59 (by decide) ?_
          obtain ⟨u11, eu11, hf⟩ := mm_bd hf
          obtain ⟨v12, ev12, hf⟩ := mm_bd hf
          refine mm_callVi (As := [.int x1, .int (3 : Int32)]) (rest := []) C hR hS hl.1 vs_X7_85 eu11 (jj_X7_of l g A M x0 x1 (3 : Int32) v12 ev12) ⟨rfl, rfl, (Nat.le_of_ble_eq_true rfl), (Nat.le_of_ble_eq_true rfl)⟩ rfl (Nat.le_of_ble_eq_true rfl) ⟨Nat.zero_le _, Nat.zero_le _⟩ rfl dX7_flaw_60 (fun H locs hR hS => ?_)
          refine lv_bipush (v := 6) hx hb dX7_flaw_63 (by decide) ?_
          refine lv_icmp_ne (tgt := 71) hx hb dX7_flaw_65 (by decide) (fun hc => ?_) (fun hc => ?_)
          · have hf := mm_if0 hc hf
            refine lv_aload_n hx hb dX7_flaw_71 rfl (lv_at hl 0 rfl) ?_
            obtain ⟨u13, eu13, hf⟩ := mm_bd hf
            obtain ⟨M14, eM14, hf⟩ := mm_bd hf
            refine mm_callVv (As := []) (rest := []) C hR hS hl.1 vs_X7_62 eu13 (jj_X7_keep l g A M x0 M14 eM14) ⟨rfl, rfl, (Nat.le_of_ble_eq_true rfl), (Nat.le_of_ble_eq_true rfl)⟩ rfl (Nat.le_of_ble_eq_true rfl) ⟨Nat.zero_le _, Nat.zero_le _⟩ rfl dX7_flaw_72 (fun H locs hR hS => ?_)
            refine lv_aload_n hx hb dX7_flaw_75 rfl (lv_at hl 0 rfl) ?_
            refine lv_iload_n hx hb dX7_flaw_76 rfl (lv_at hl 1 rfl) ?_
            refine lv_iconst (v := 5) hx hb dX7_flaw_77 (by decide) ?_
            refine lv_aload_n hx hb dX7_flaw_78 rfl (lv_at hl 0 rfl) ?_
            refine lv_iload_n hx hb dX7_flaw_79 rfl (lv_at hl 1 rfl) ?_
            refine lv_iconst (v := 3) hx hb dX7_flaw_80 (by decide) ?_
            obtain ⟨u15, eu15, hf⟩ := mm_bd hf
            obtain ⟨v16, ev16, hf⟩ := mm_bd hf
            refine mm_callVi (As := [.int x1, .int (3 : Int32)]) (rest := [.int (5 : Int32), .int x1, .ref x0]) C hR hS hl.1 vs_X7_85 eu15 (jj_X7_of l g A M14 x0 x1 (3 : Int32) v16 ev16) ⟨rfl, rfl, (Nat.le_of_ble_eq_true rfl), (Nat.le_of_ble_eq_true rfl)⟩ rfl (Nat.le_of_ble_eq_true rfl) ⟨Nat.zero_le _, Nat.zero_le _⟩ rfl dX7_flaw_81 (fun H locs hR hS => ?_)
            refine lv_iadd hx hb dX7_flaw_84 ?_
            refine lv_iload_n hx hb dX7_flaw_85 rfl (lv_at hl 2 rfl) ?_
            obtain ⟨u17, eu17, hf⟩ := mm_bd hf
            obtain ⟨M18, eM18, hf⟩ := mm_bd hf
            refine mm_callVv (As := [.int x1, .int ((5 : Int32) + v16), .int x2]) (rest := []) C hR hS hl.1 vs_X7_105 eu17 (jj_X7_put l g A M14 x0 x1 ((5 : Int32) + v16) x2 M18 eM18) ⟨rfl, rfl, (Nat.le_of_ble_eq_true rfl), (Nat.le_of_ble_eq_true rfl)⟩ rfl (Nat.le_of_ble_eq_true rfl) ⟨Nat.zero_le _, Nat.zero_le _⟩ rfl dX7_flaw_86 (fun H locs hR hS => ?_)
            refine lv_aload_n hx hb dX7_flaw_89 rfl (lv_at hl 0 rfl) ?_
            refine lv_iload_n hx hb dX7_flaw_90 rfl (lv_at hl 1 rfl) ?_
            refine lv_iconst (v := 3) hx hb dX7_flaw_91 (by decide) ?_
            refine lv_aload_n hx hb dX7_flaw_92 rfl (lv_at hl 0 rfl) ?_
            refine lv_iload_n hx hb dX7_flaw_93 rfl (lv_at hl 1 rfl) ?_
            refine lv_iconst (v := 3) hx hb dX7_flaw_94 (by decide) ?_
            obtain ⟨u19, eu19, hf⟩ := mm_bd hf
            obtain ⟨v20, ev20, hf⟩ := mm_bd hf
            refine mm_callVi (As := [.int x1, .int (3 : Int32)]) (rest := [.int (3 : Int32), .int x1, .ref x0]) C hR hS hl.1 vs_X7_85 eu19 (jj_X7_of l g A M18 x0 x1 (3 : Int32) v20 ev20) ⟨rfl, rfl, (Nat.le_of_ble_eq_true rfl), (Nat.le_of_ble_eq_true rfl)⟩ rfl (Nat.le_of_ble_eq_true rfl) ⟨Nat.zero_le _, Nat.zero_le _⟩ rfl dX7_flaw_95 (fun H locs hR hS => ?_)
            refine lv_iconst (v := 1) hx hb dX7_flaw_98 (by decide) ?_
            refine lv_iadd hx hb dX7_flaw_99 ?_
            obtain ⟨u21, eu21, hf⟩ := mm_bd hf
            obtain ⟨M22, eM22, hf⟩ := mm_bd hf
            refine mm_callVv (As := [.int x1, .int (3 : Int32), .int (v20 + (1 : Int32))]) (rest := []) C hR hS hl.1 vs_X7_105 eu21 (jj_X7_put l g A M18 x0 x1 (3 : Int32) (v20 + (1 : Int32)) M22 eM22) ⟨rfl, rfl, (Nat.le_of_ble_eq_true rfl), (Nat.le_of_ble_eq_true rfl)⟩ rfl (Nat.le_of_ble_eq_true rfl) ⟨Nat.zero_le _, Nat.zero_le _⟩ rfl dX7_flaw_100 (fun H locs hR hS => ?_)
            refine lv_aload_n hx hb dX7_flaw_103 rfl (lv_at hl 0 rfl) ?_
            refine lv_iload_n hx hb dX7_flaw_104 rfl (lv_at hl 1 rfl) ?_
            refine lv_iconst (v := 3) hx hb dX7_flaw_105 (by decide) ?_
            obtain ⟨u23, eu23, hf⟩ := mm_bd hf
            obtain ⟨v24, ev24, hf⟩ := mm_bd hf
            refine mm_callVi (As := [.int x1, .int (3 : Int32)]) (rest := []) C hR hS hl.1 vs_X7_85 eu23 (jj_X7_of l g A M22 x0 x1 (3 : Int32) v24 ev24) ⟨rfl, rfl, (Nat.le_of_ble_eq_true rfl), (Nat.le_of_ble_eq_true rfl)⟩ rfl (Nat.le_of_ble_eq_true rfl) ⟨Nat.zero_le _, Nat.zero_le _⟩ rfl dX7_flaw_106 (fun H locs hR hS => ?_)
            exact mm_ire C hR hS hr ((mm_pe hf).1) (mm_pe hf).2 dX7_flaw_109
          · have hf := mm_if1 hc hf
            refine lv_bipush (v := -3) hx hb dX7_flaw_68 (by decide) ?_
            exact mm_ire C hR hS hr ((mm_pe hf).1) (mm_pe hf).2 dX7_flaw_70
        · have hf := mm_if0 hc hf
          refine lv_bipush (v := -2) hx hb dX7_flaw_54 (by decide) ?_
          exact mm_ire C hR hS hr ((mm_pe hf).1) (mm_pe hf).2 dX7_flaw_56
    · have hf := mm_if1 hc hf
      refine lv_iconst (v := -1) hx hb dX7_flaw_19 (by decide) ?_
      exact mm_ire C hR hS hr ((mm_pe hf).1) (mm_pe hf).2 dX7_flaw_20
def ff_X7_canCut (M : mm_M) (x0 : Nat) (x1 : Int32) : Option Int32 := Option.bind (mm_ck 7 M x0) fun u1 => Option.bind (ff_X7_left M x0 x1) fun v2 => Option.bind (mm_gR 7 M x0 0) fun v3 => Option.bind (mm_aI 0 M v3 (2 : Int32)) fun v4 => if v2 < v4 then (some (0 : Int32)) else (some (1 : Int32))
def rm_X7_canCut : Room := { frames := 2, cells := 0, slots := 0, locals := 43 }
set_option maxHeartbeats 4000000 in
set_option maxRecDepth 100000 in
theorem jj_X7_canCut (l : Launch) (g : mm_G) (A : Nat → Prop) (M : mm_M) (x0 : Nat) (x1 : Int32) (r : Int32) (hf : ff_X7_canCut M x0 x1 = some r) : Met l yX7_canCut (mm_ws yX7_canCut cX7_canCut 2 (Option.some Jvm.ClassFile.FieldType.boolean)) rm_X7_canCut (va_Pc [.ref x0, .int x1] (mm_B g A M)) (mm_Ti g A r M) 0 0 A := by
  refine mm_met (g := g) (lv := [(0, .ref x0), (1, .int x1)]) (fun U h => h.2) (by decide +kernel) (Nat.le_of_ble_eq_true rfl) rfl ?_
  intro p e s m args below meth c ls C hr hnm hB hl
  obtain ⟨hR, hK⟩ := hB
  have hx := C.1
  have hb := C.2.1
  suffices hmain : ∀ (H : Heap) (locs : List Loc), mm_R g A M H → va_S A s.heap H locs → W p l e rm_X7_canCut s m args below meth c H locs 0 0 (MQ below (mm_Ti g A r M) args s 0 0 A) (F0 m 0 ls []) from hmain _ _ hR va_S.rf
  clear hR
  intro H locs hR hS
  unfold ff_X7_canCut at hf
  refine lv_aload_n hx hb dX7_canCut_0 rfl (lv_at hl 0 rfl) ?_
  refine lv_iload_n hx hb dX7_canCut_1 rfl (lv_at hl 1 rfl) ?_
  obtain ⟨u1, eu1, hf⟩ := mm_bd hf
  obtain ⟨v2, ev2, hf⟩ := mm_bd hf
  refine mm_callVi (As := [.int x1]) (rest := []) C hR hS hl.1 vs_X7_88 eu1 (jj_X7_left l g A M x0 x1 v2 ev2) ⟨rfl, rfl, (Nat.le_of_ble_eq_true rfl), (Nat.le_of_ble_eq_true rfl)⟩ rfl (Nat.le_of_ble_eq_true rfl) ⟨Nat.zero_le _, Nat.zero_le _⟩ rfl dX7_canCut_2 (fun H locs hR hS => ?_)
  refine lv_aload_n hx hb dX7_canCut_5 rfl (lv_at hl 0 rfl) ?_
  obtain ⟨v3, ev3, hf⟩ := mm_bd hf
  refine mm_getR C hR fs_X7_7 ev3 dX7_canCut_6 ?_
  refine lv_iconst (v := 2) hx hb dX7_canCut_9 (by decide) ?_
  obtain ⟨v4, ev4, hf⟩ := mm_bd hf
  refine mm_iald C hR ev4 dX7_canCut_10 ?_
  refine lv_icmp_lt (tgt := 18) hx hb dX7_canCut_11 (by decide) (fun hc => ?_) (fun hc => ?_)
  · have hf := mm_if1 hc hf
    refine lv_iconst (v := 0) hx hb dX7_canCut_18 (by decide) ?_
    exact mm_zre C hR hS hr (Or.inl rfl) ((Option.some.inj hf)) rfl dX7_canCut_19
  · have hf := mm_if0 hc hf
    refine lv_iconst (v := 1) hx hb dX7_canCut_14 (by decide) ?_
    refine lv_goto (tgt := 19) hx hb dX7_canCut_15 (by decide) ?_
    exact mm_zre C hR hS hr (Or.inr rfl) ((Option.some.inj hf)) rfl dX7_canCut_19
def ff_X7_cuts_j143 (M : mm_M) (x3 : Int32) (y0 : Int32) (y1 : Int32) (y2 : Int32) (y3 : Int32) (y4 : Nat) : Option ((Int32 × mm_M)) := Option.bind (mm_ck 7 M y4) fun u31 => Option.bind (ff_X7_put M y4 y3 y2 (y1 + y0)) fun M32 => Option.bind (mm_bz x3) fun b33 => some (b33, M32)
def ff_X7_cuts_j123 (M : mm_M) (x0 : Nat) (x1 : Int32) (x3 : Int32) (y0 : Int32) (y1 : Int32) (y2 : Int32) (y3 : Nat) : Option ((Int32 × mm_M)) := Option.bind (mm_sI 0 M y3 y2 (y1 + y0)) fun M28 => Option.bind (mm_ck 7 M28 x0) fun u29 => Option.bind (ff_X7_of M28 x0 x1 (4 : Int32)) fun v30 => if x3 = (0 : Int32) then (ff_X7_cuts_j143 M28 x3 (0 : Int32) v30 (4 : Int32) x1 x0) else (ff_X7_cuts_j143 M28 x3 (1 : Int32) v30 (4 : Int32) x1 x0)
def ff_X7_cuts_j99 (M : mm_M) (x0 : Nat) (x1 : Int32) (x3 : Int32) (y0 : Int32) (y1 : Int32) (y2 : Int32) (y3 : Nat) : Option ((Int32 × mm_M)) := Option.bind (mm_sI 0 M y3 y2 (y1 + y0)) fun M23 => Option.bind (mm_gR 7 M23 x0 0) fun v24 => Option.bind (mm_aI 0 M23 v24 (9 : Int32)) fun v25 => if x3 = (0 : Int32) then (Option.bind (mm_gR 7 M23 x0 0) fun v26 => Option.bind (mm_aI 0 M23 v26 (2 : Int32)) fun v27 => ff_X7_cuts_j123 M23 x0 x1 x3 v27 v25 (9 : Int32) v24) else (ff_X7_cuts_j123 M23 x0 x1 x3 (0 : Int32) v25 (9 : Int32) v24)
def ff_X7_cuts_j29 (M : mm_M) (x0 : Nat) (x1 : Int32) (x2 : Int32) (y0 : Int32) : Option ((Int32 × mm_M)) := Option.bind (mm_gR 7 M x0 0) fun v7 => Option.bind (mm_aI 0 M v7 (3 : Int32)) fun v8 => Option.bind (mm_ck 7 M x0) fun u9 => Option.bind (ff_X7_left M x0 x1) fun v10 => Option.bind (mm_gR 7 M x0 0) fun v11 => Option.bind (mm_aI 0 M v11 (2 : Int32)) fun v12 => Option.bind (ff_X7_lesser M v8 (v10 - v12)) fun v13 => Option.bind (mm_gR 7 M x0 0) fun v14 => Option.bind (mm_aI 0 M v14 (2 : Int32)) fun v15 => Option.bind (mm_ck 7 M x0) fun u16 => Option.bind (ff_X7_put M x0 x1 (2 : Int32) ((x2 + v15) + v13)) fun M17 => Option.bind (mm_gR 7 M17 x0 0) fun v18 => Option.bind (mm_aI 0 M17 v18 (10 : Int32)) fun v19 => Option.bind (mm_sI 0 M17 v18 (10 : Int32) (v19 + v13)) fun M20 => Option.bind (mm_gR 7 M20 x0 0) fun v21 => Option.bind (mm_aI 0 M20 v21 (8 : Int32)) fun v22 => if y0 = (0 : Int32) then (ff_X7_cuts_j99 M20 x0 x1 y0 (1 : Int32) v22 (8 : Int32) v21) else (ff_X7_cuts_j99 M20 x0 x1 y0 (0 : Int32) v22 (8 : Int32) v21)
def ff_X7_cuts (M : mm_M) (x0 : Nat) (x1 : Int32) : Option ((Int32 × mm_M)) := Option.bind (mm_ck 7 M x0) fun u1 => Option.bind (ff_X7_of M x0 x1 (2 : Int32)) fun v2 => Option.bind (mm_gR 7 M x0 0) fun v3 => Option.bind (mm_aI 0 M v3 (2 : Int32)) fun v4 => Option.bind (mm_ck 7 M x0) fun u5 => Option.bind (ff_X7_hasFlaw M x0 x1 v2 (v2 + v4)) fun v6 => if v6 = (0 : Int32) then (ff_X7_cuts_j29 M x0 x1 v2 (1 : Int32)) else (ff_X7_cuts_j29 M x0 x1 v2 (0 : Int32))
def rm_X7_cuts : Room := { frames := 2, cells := 0, slots := 0, locals := 47 }
set_option maxHeartbeats 4000000 in
set_option maxRecDepth 100000 in
theorem jj_X7_cuts (l : Launch) (g : mm_G) (A : Nat → Prop) (M : mm_M) (x0 : Nat) (x1 : Int32) (r : Int32) (M2 : mm_M) (hf : ff_X7_cuts M x0 x1 = some (r, M2)) : Met l yX7_cuts (mm_ws yX7_cuts cX7_cuts 5 (Option.some Jvm.ClassFile.FieldType.boolean)) rm_X7_cuts (va_Pc [.ref x0, .int x1] (mm_B g A M)) (mm_Ti g A r M2) 0 0 A := by
  refine mm_met (g := g) (lv := [(0, .ref x0), (1, .int x1)]) (fun U h => h.2) (by decide +kernel) (Nat.le_of_ble_eq_true rfl) rfl ?_
  intro p e s m args below meth c ls C hr hnm hB hl
  obtain ⟨hR, hK⟩ := hB
  have hx := C.1
  have hb := C.2.1
  suffices hmain : ∀ (H : Heap) (locs : List Loc), mm_R g A M H → va_S A s.heap H locs → W p l e rm_X7_cuts s m args below meth c H locs 0 0 (MQ below (mm_Ti g A r M2) args s 0 0 A) (F0 m 0 ls []) from hmain _ _ hR va_S.rf
  clear hR
  intro H locs hR hS
  have J143 : ∀ (M : mm_M) (x3 : Int32) (y0 : Int32) (y1 : Int32) (y2 : Int32) (y3 : Int32) (y4 : Nat) (H : Heap) (locs : List Loc) (ls : Array Slot), mm_R g A M H → va_S A s.heap H locs → lv_has ls 5 [(3, .int x3)] → ff_X7_cuts_j143 M x3 y0 y1 y2 y3 y4 = some (r, M2) → W p l e rm_X7_cuts s m args below meth c H locs 0 0 (MQ below (mm_Ti g A r M2) args s 0 0 A) (F0 m 143 ls [.int y0, .int y1, .int y2, .int y3, .ref y4]) := by
    intro M x3 y0 y1 y2 y3 y4 H locs ls hR hS hl hf
    unfold ff_X7_cuts_j143 at hf
    refine lv_iadd hx hb dX7_cuts_143 ?_
    obtain ⟨u31, eu31, hf⟩ := mm_bd hf
    obtain ⟨M32, eM32, hf⟩ := mm_bd hf
    refine mm_callVv (As := [.int y3, .int y2, .int (y1 + y0)]) (rest := []) C hR hS hl.1 vs_X7_105 eu31 (jj_X7_put l g A M y4 y3 y2 (y1 + y0) M32 eM32) ⟨rfl, rfl, (Nat.le_of_ble_eq_true rfl), (Nat.le_of_ble_eq_true rfl)⟩ rfl (Nat.le_of_ble_eq_true rfl) ⟨Nat.zero_le _, Nat.zero_le _⟩ rfl dX7_cuts_144 (fun H locs hR hS => ?_)
    refine lv_iload_n hx hb dX7_cuts_147 rfl (lv_at hl 0 rfl) ?_
    obtain ⟨b33, eb33, hf⟩ := mm_bd hf
    exact mm_zre C hR hS hr (mm_bz_s eb33).1 ((mm_bz_s eb33).2.trans (mm_pe hf).1) (mm_pe hf).2 dX7_cuts_148
  have J123 : ∀ (M : mm_M) (x0 : Nat) (x1 : Int32) (x3 : Int32) (y0 : Int32) (y1 : Int32) (y2 : Int32) (y3 : Nat) (H : Heap) (locs : List Loc) (ls : Array Slot), mm_R g A M H → va_S A s.heap H locs → lv_has ls 5 [(0, .ref x0), (1, .int x1), (3, .int x3)] → ff_X7_cuts_j123 M x0 x1 x3 y0 y1 y2 y3 = some (r, M2) → W p l e rm_X7_cuts s m args below meth c H locs 0 0 (MQ below (mm_Ti g A r M2) args s 0 0 A) (F0 m 123 ls [.int y0, .int y1, .int y2, .ref y3]) := by
    intro M x0 x1 x3 y0 y1 y2 y3 H locs ls hR hS hl hf
    unfold ff_X7_cuts_j123 at hf
    refine lv_iadd hx hb dX7_cuts_123 ?_
    obtain ⟨M28, eM28, hf⟩ := mm_bd hf
    refine mm_iast C hR hS eM28 dX7_cuts_124 (fun H locs hR hS => ?_)
    refine lv_aload_n hx hb dX7_cuts_125 rfl (lv_at hl 0 rfl) ?_
    refine lv_iload_n hx hb dX7_cuts_126 rfl (lv_at hl 1 rfl) ?_
    refine lv_iconst (v := 4) hx hb dX7_cuts_127 (by decide) ?_
    refine lv_aload_n hx hb dX7_cuts_128 rfl (lv_at hl 0 rfl) ?_
    refine lv_iload_n hx hb dX7_cuts_129 rfl (lv_at hl 1 rfl) ?_
    refine lv_iconst (v := 4) hx hb dX7_cuts_130 (by decide) ?_
    obtain ⟨u29, eu29, hf⟩ := mm_bd hf
    obtain ⟨v30, ev30, hf⟩ := mm_bd hf
    refine mm_callVi (As := [.int x1, .int (4 : Int32)]) (rest := [.int (4 : Int32), .int x1, .ref x0]) C hR hS hl.1 vs_X7_85 eu29 (jj_X7_of l g A M28 x0 x1 (4 : Int32) v30 ev30) ⟨rfl, rfl, (Nat.le_of_ble_eq_true rfl), (Nat.le_of_ble_eq_true rfl)⟩ rfl (Nat.le_of_ble_eq_true rfl) ⟨Nat.zero_le _, Nat.zero_le _⟩ rfl dX7_cuts_131 (fun H locs hR hS => ?_)
    refine lv_iload_n hx hb dX7_cuts_134 rfl (lv_at hl 2 rfl) ?_
    refine lv_if_eq (tgt := 142) hx hb dX7_cuts_135 (by decide) (fun hc => ?_) (fun hc => ?_)
    · have hf := mm_if1 hc hf
      refine lv_iconst (v := 0) hx hb dX7_cuts_142 (by decide) ?_
      exact J143 M28 x3 (0 : Int32) v30 (4 : Int32) x1 x0 H locs ls hR hS (lv_sub hl [2] rfl) hf
    · have hf := mm_if0 hc hf
      refine lv_iconst (v := 1) hx hb dX7_cuts_138 (by decide) ?_
      refine lv_goto (tgt := 143) hx hb dX7_cuts_139 (by decide) ?_
      exact J143 M28 x3 (1 : Int32) v30 (4 : Int32) x1 x0 H locs ls hR hS (lv_sub hl [2] rfl) hf
  have J99 : ∀ (M : mm_M) (x0 : Nat) (x1 : Int32) (x3 : Int32) (y0 : Int32) (y1 : Int32) (y2 : Int32) (y3 : Nat) (H : Heap) (locs : List Loc) (ls : Array Slot), mm_R g A M H → va_S A s.heap H locs → lv_has ls 5 [(0, .ref x0), (1, .int x1), (3, .int x3)] → ff_X7_cuts_j99 M x0 x1 x3 y0 y1 y2 y3 = some (r, M2) → W p l e rm_X7_cuts s m args below meth c H locs 0 0 (MQ below (mm_Ti g A r M2) args s 0 0 A) (F0 m 99 ls [.int y0, .int y1, .int y2, .ref y3]) := by
    intro M x0 x1 x3 y0 y1 y2 y3 H locs ls hR hS hl hf
    unfold ff_X7_cuts_j99 at hf
    refine lv_iadd hx hb dX7_cuts_99 ?_
    obtain ⟨M23, eM23, hf⟩ := mm_bd hf
    refine mm_iast C hR hS eM23 dX7_cuts_100 (fun H locs hR hS => ?_)
    refine lv_aload_n hx hb dX7_cuts_101 rfl (lv_at hl 0 rfl) ?_
    obtain ⟨v24, ev24, hf⟩ := mm_bd hf
    refine mm_getR C hR fs_X7_7 ev24 dX7_cuts_102 ?_
    refine lv_bipush (v := 9) hx hb dX7_cuts_105 (by decide) ?_
    refine lv_dup2_11 hx hb dX7_cuts_107 rfl rfl ?_
    obtain ⟨v25, ev25, hf⟩ := mm_bd hf
    refine mm_iald C hR ev25 dX7_cuts_108 ?_
    refine lv_iload_n hx hb dX7_cuts_109 rfl (lv_at hl 2 rfl) ?_
    refine lv_if_eq (tgt := 117) hx hb dX7_cuts_110 (by decide) (fun hc => ?_) (fun hc => ?_)
    · have hf := mm_if1 hc hf
      refine lv_aload_n hx hb dX7_cuts_117 rfl (lv_at hl 0 rfl) ?_
      obtain ⟨v26, ev26, hf⟩ := mm_bd hf
      refine mm_getR C hR fs_X7_7 ev26 dX7_cuts_118 ?_
      refine lv_iconst (v := 2) hx hb dX7_cuts_121 (by decide) ?_
      obtain ⟨v27, ev27, hf⟩ := mm_bd hf
      refine mm_iald C hR ev27 dX7_cuts_122 ?_
      exact J123 M23 x0 x1 x3 v27 v25 (9 : Int32) v24 H locs ls hR hS (lv_sub hl [0, 1, 2] rfl) hf
    · have hf := mm_if0 hc hf
      refine lv_iconst (v := 0) hx hb dX7_cuts_113 (by decide) ?_
      refine lv_goto (tgt := 123) hx hb dX7_cuts_114 (by decide) ?_
      exact J123 M23 x0 x1 x3 (0 : Int32) v25 (9 : Int32) v24 H locs ls hR hS (lv_sub hl [0, 1, 2] rfl) hf
  have J29 : ∀ (M : mm_M) (x0 : Nat) (x1 : Int32) (x2 : Int32) (y0 : Int32) (H : Heap) (locs : List Loc) (ls : Array Slot), mm_R g A M H → va_S A s.heap H locs → lv_has ls 5 [(0, .ref x0), (1, .int x1), (2, .int x2)] → ff_X7_cuts_j29 M x0 x1 x2 y0 = some (r, M2) → W p l e rm_X7_cuts s m args below meth c H locs 0 0 (MQ below (mm_Ti g A r M2) args s 0 0 A) (F0 m 29 ls [.int y0]) := by
    intro M x0 x1 x2 y0 H locs ls hR hS hl hf
    unfold ff_X7_cuts_j29 at hf
    refine lv_istore_n (lv' := [(3, .int y0), (0, .ref x0), (1, .int x1), (2, .int x2)]) hx hb dX7_cuts_29 rfl hl (by decide) rfl (fun ls hl => ?_)
    refine lv_aload_n hx hb dX7_cuts_30 rfl (lv_at hl 1 rfl) ?_
    obtain ⟨v7, ev7, hf⟩ := mm_bd hf
    refine mm_getR C hR fs_X7_7 ev7 dX7_cuts_31 ?_
    refine lv_iconst (v := 3) hx hb dX7_cuts_34 (by decide) ?_
    obtain ⟨v8, ev8, hf⟩ := mm_bd hf
    refine mm_iald C hR ev8 dX7_cuts_35 ?_
    refine lv_aload_n hx hb dX7_cuts_36 rfl (lv_at hl 1 rfl) ?_
    refine lv_iload_n hx hb dX7_cuts_37 rfl (lv_at hl 2 rfl) ?_
    obtain ⟨u9, eu9, hf⟩ := mm_bd hf
    obtain ⟨v10, ev10, hf⟩ := mm_bd hf
    refine mm_callVi (As := [.int x1]) (rest := [.int v8]) C hR hS hl.1 vs_X7_88 eu9 (jj_X7_left l g A M x0 x1 v10 ev10) ⟨rfl, rfl, (Nat.le_of_ble_eq_true rfl), (Nat.le_of_ble_eq_true rfl)⟩ rfl (Nat.le_of_ble_eq_true rfl) ⟨Nat.zero_le _, Nat.zero_le _⟩ rfl dX7_cuts_38 (fun H locs hR hS => ?_)
    refine lv_aload_n hx hb dX7_cuts_41 rfl (lv_at hl 1 rfl) ?_
    obtain ⟨v11, ev11, hf⟩ := mm_bd hf
    refine mm_getR C hR fs_X7_7 ev11 dX7_cuts_42 ?_
    refine lv_iconst (v := 2) hx hb dX7_cuts_45 (by decide) ?_
    obtain ⟨v12, ev12, hf⟩ := mm_bd hf
    refine mm_iald C hR ev12 dX7_cuts_46 ?_
    refine lv_isub hx hb dX7_cuts_47 ?_
    obtain ⟨v13, ev13, hf⟩ := mm_bd hf
    refine mm_callSi (As := [.int v8, .int (v10 - v12)]) (rest := []) C hR hS hl.1 ss_X7_45 (jj_X7_lesser l g A M v8 (v10 - v12) v13 ev13) ⟨rfl, rfl, (Nat.le_of_ble_eq_true rfl), (Nat.le_of_ble_eq_true rfl)⟩ rfl (Nat.le_of_ble_eq_true rfl) ⟨Nat.zero_le _, Nat.zero_le _⟩ rfl dX7_cuts_48 (fun H locs hR hS => ?_)
    refine lv_istore (lv' := [(4, .int v13), (3, .int y0), (0, .ref x0), (1, .int x1), (2, .int x2)]) hx hb dX7_cuts_51 hl (by decide) rfl (fun ls hl => ?_)
    refine lv_aload_n hx hb dX7_cuts_53 rfl (lv_at hl 2 rfl) ?_
    refine lv_iload_n hx hb dX7_cuts_54 rfl (lv_at hl 3 rfl) ?_
    refine lv_iconst (v := 2) hx hb dX7_cuts_55 (by decide) ?_
    refine lv_iload_n hx hb dX7_cuts_56 rfl (lv_at hl 4 rfl) ?_
    refine lv_aload_n hx hb dX7_cuts_57 rfl (lv_at hl 2 rfl) ?_
    obtain ⟨v14, ev14, hf⟩ := mm_bd hf
    refine mm_getR C hR fs_X7_7 ev14 dX7_cuts_58 ?_
    refine lv_iconst (v := 2) hx hb dX7_cuts_61 (by decide) ?_
    obtain ⟨v15, ev15, hf⟩ := mm_bd hf
    refine mm_iald C hR ev15 dX7_cuts_62 ?_
    refine lv_iadd hx hb dX7_cuts_63 ?_
    refine lv_iload hx hb dX7_cuts_64 (lv_at hl 0 rfl) ?_
    refine lv_iadd hx hb dX7_cuts_66 ?_
    obtain ⟨u16, eu16, hf⟩ := mm_bd hf
    obtain ⟨M17, eM17, hf⟩ := mm_bd hf
    refine mm_callVv (As := [.int x1, .int (2 : Int32), .int ((x2 + v15) + v13)]) (rest := []) C hR hS hl.1 vs_X7_105 eu16 (jj_X7_put l g A M x0 x1 (2 : Int32) ((x2 + v15) + v13) M17 eM17) ⟨rfl, rfl, (Nat.le_of_ble_eq_true rfl), (Nat.le_of_ble_eq_true rfl)⟩ rfl (Nat.le_of_ble_eq_true rfl) ⟨Nat.zero_le _, Nat.zero_le _⟩ rfl dX7_cuts_67 (fun H locs hR hS => ?_)
    refine lv_aload_n hx hb dX7_cuts_70 rfl (lv_at hl 2 rfl) ?_
    obtain ⟨v18, ev18, hf⟩ := mm_bd hf
    refine mm_getR C hR fs_X7_7 ev18 dX7_cuts_71 ?_
    refine lv_bipush (v := 10) hx hb dX7_cuts_74 (by decide) ?_
    refine lv_dup2_11 hx hb dX7_cuts_76 rfl rfl ?_
    obtain ⟨v19, ev19, hf⟩ := mm_bd hf
    refine mm_iald C hR ev19 dX7_cuts_77 ?_
    refine lv_iload hx hb dX7_cuts_78 (lv_at hl 0 rfl) ?_
    refine lv_iadd hx hb dX7_cuts_80 ?_
    obtain ⟨M20, eM20, hf⟩ := mm_bd hf
    refine mm_iast C hR hS eM20 dX7_cuts_81 (fun H locs hR hS => ?_)
    refine lv_aload_n hx hb dX7_cuts_82 rfl (lv_at hl 2 rfl) ?_
    obtain ⟨v21, ev21, hf⟩ := mm_bd hf
    refine mm_getR C hR fs_X7_7 ev21 dX7_cuts_83 ?_
    refine lv_bipush (v := 8) hx hb dX7_cuts_86 (by decide) ?_
    refine lv_dup2_11 hx hb dX7_cuts_88 rfl rfl ?_
    obtain ⟨v22, ev22, hf⟩ := mm_bd hf
    refine mm_iald C hR ev22 dX7_cuts_89 ?_
    refine lv_iload_n hx hb dX7_cuts_90 rfl (lv_at hl 1 rfl) ?_
    refine lv_if_eq (tgt := 98) hx hb dX7_cuts_91 (by decide) (fun hc => ?_) (fun hc => ?_)
    · have hf := mm_if1 hc hf
      refine lv_iconst (v := 1) hx hb dX7_cuts_98 (by decide) ?_
      exact J99 M20 x0 x1 y0 (1 : Int32) v22 (8 : Int32) v21 H locs ls hR hS (lv_sub hl [2, 3, 1] rfl) hf
    · have hf := mm_if0 hc hf
      refine lv_iconst (v := 0) hx hb dX7_cuts_94 (by decide) ?_
      refine lv_goto (tgt := 99) hx hb dX7_cuts_95 (by decide) ?_
      exact J99 M20 x0 x1 y0 (0 : Int32) v22 (8 : Int32) v21 H locs ls hR hS (lv_sub hl [2, 3, 1] rfl) hf
  unfold ff_X7_cuts at hf
  refine lv_aload_n hx hb dX7_cuts_0 rfl (lv_at hl 0 rfl) ?_
  refine lv_iload_n hx hb dX7_cuts_1 rfl (lv_at hl 1 rfl) ?_
  refine lv_iconst (v := 2) hx hb dX7_cuts_2 (by decide) ?_
  obtain ⟨u1, eu1, hf⟩ := mm_bd hf
  obtain ⟨v2, ev2, hf⟩ := mm_bd hf
  refine mm_callVi (As := [.int x1, .int (2 : Int32)]) (rest := []) C hR hS hl.1 vs_X7_85 eu1 (jj_X7_of l g A M x0 x1 (2 : Int32) v2 ev2) ⟨rfl, rfl, (Nat.le_of_ble_eq_true rfl), (Nat.le_of_ble_eq_true rfl)⟩ rfl (Nat.le_of_ble_eq_true rfl) ⟨Nat.zero_le _, Nat.zero_le _⟩ rfl dX7_cuts_3 (fun H locs hR hS => ?_)
  refine lv_istore_n (lv' := [(2, .int v2), (0, .ref x0), (1, .int x1)]) hx hb dX7_cuts_6 rfl hl (by decide) rfl (fun ls hl => ?_)
  refine lv_aload_n hx hb dX7_cuts_7 rfl (lv_at hl 1 rfl) ?_
  refine lv_iload_n hx hb dX7_cuts_8 rfl (lv_at hl 2 rfl) ?_
  refine lv_iload_n hx hb dX7_cuts_9 rfl (lv_at hl 0 rfl) ?_
  refine lv_iload_n hx hb dX7_cuts_10 rfl (lv_at hl 0 rfl) ?_
  refine lv_aload_n hx hb dX7_cuts_11 rfl (lv_at hl 1 rfl) ?_
  obtain ⟨v3, ev3, hf⟩ := mm_bd hf
  refine mm_getR C hR fs_X7_7 ev3 dX7_cuts_12 ?_
  refine lv_iconst (v := 2) hx hb dX7_cuts_15 (by decide) ?_
  obtain ⟨v4, ev4, hf⟩ := mm_bd hf
  refine mm_iald C hR ev4 dX7_cuts_16 ?_
  refine lv_iadd hx hb dX7_cuts_17 ?_
  obtain ⟨u5, eu5, hf⟩ := mm_bd hf
  obtain ⟨v6, ev6, hf⟩ := mm_bd hf
  refine mm_callVi (As := [.int x1, .int v2, .int (v2 + v4)]) (rest := []) C hR hS hl.1 vs_X7_113 eu5 (jj_X7_hasFlaw l g A M x0 x1 v2 (v2 + v4) v6 ev6) ⟨rfl, rfl, (Nat.le_of_ble_eq_true rfl), (Nat.le_of_ble_eq_true rfl)⟩ rfl (Nat.le_of_ble_eq_true rfl) ⟨Nat.zero_le _, Nat.zero_le _⟩ rfl dX7_cuts_18 (fun H locs hR hS => ?_)
  refine lv_if_ne (tgt := 28) hx hb dX7_cuts_21 (by decide) (fun hc => ?_) (fun hc => ?_)
  · have hf := mm_if0 hc hf
    refine lv_iconst (v := 0) hx hb dX7_cuts_28 (by decide) ?_
    exact J29 M x0 x1 v2 (0 : Int32) H locs ls hR hS (lv_sub hl [1, 2, 0] rfl) hf
  · have hf := mm_if1 hc hf
    refine lv_iconst (v := 1) hx hb dX7_cuts_24 (by decide) ?_
    refine lv_goto (tgt := 29) hx hb dX7_cuts_25 (by decide) ?_
    exact J29 M x0 x1 v2 (1 : Int32) H locs ls hR hS (lv_sub hl [1, 2, 0] rfl) hf
def ff_X7_cut_j56 (M : mm_M) (x2 : Int32) (y0 : Int32) (y1 : Int32) (y2 : Int32) (y3 : Nat) : Option ((Int32 × mm_M)) := Option.bind (mm_sI 0 M y3 y2 (y1 + y0)) fun M14 => if x2 = (0 : Int32) then (some ((0 : Int32), M14)) else (some ((1 : Int32), M14))
def ff_X7_cut (M : mm_M) (x0 : Nat) (x1 : Int32) : Option ((Int32 × mm_M)) := Option.bind (mm_ck 7 M x0) fun u1 => Option.bind (ff_X7_isStrip M x0 x1) fun v2 => if v2 = (0 : Int32) then (some ((-1 : Int32), M)) else (Option.bind (mm_ck 7 M x0) fun u3 => Option.bind (ff_X7_canCut M x0 x1) fun v4 => if v4 = (0 : Int32) then (some ((-2 : Int32), M)) else (Option.bind (mm_ck 7 M x0) fun u5 => Option.bind (ff_X7_keep M x0) fun M6 => Option.bind (mm_ck 7 M6 x0) fun u7 => Option.bind (ff_X7_cuts M6 x0 x1) (mm_u2 fun v8 M9 => Option.bind (mm_gR 7 M9 x0 0) fun v10 => Option.bind (mm_ck 7 M9 x0) fun u11 => Option.bind (ff_X7_of M9 x0 x1 (1 : Int32)) fun v12 => Option.bind (mm_aI 0 M9 v10 ((308 : Int32) + v12)) fun v13 => if v8 = (0 : Int32) then (ff_X7_cut_j56 M9 v8 (0 : Int32) v13 ((308 : Int32) + v12) v10) else (ff_X7_cut_j56 M9 v8 (1 : Int32) v13 ((308 : Int32) + v12) v10))))
def rm_X7_cut : Room := { frames := 3, cells := 0, slots := 0, locals := 71 }
set_option maxHeartbeats 4000000 in
set_option maxRecDepth 100000 in
theorem jj_X7_cut (l : Launch) (g : mm_G) (A : Nat → Prop) (M : mm_M) (x0 : Nat) (x1 : Int32) (r : Int32) (M2 : mm_M) (hf : ff_X7_cut M x0 x1 = some (r, M2)) : Met l yX7_cut (mm_ws yX7_cut cX7_cut 3 (Option.some Jvm.ClassFile.FieldType.int)) rm_X7_cut (va_Pc [.ref x0, .int x1] (mm_B g A M)) (mm_Ti g A r M2) 0 0 A := by
  refine mm_met (g := g) (lv := [(0, .ref x0), (1, .int x1)]) (fun U h => h.2) (by decide +kernel) (Nat.le_of_ble_eq_true rfl) rfl ?_
  intro p e s m args below meth c ls C hr hnm hB hl
  obtain ⟨hR, hK⟩ := hB
  have hx := C.1
  have hb := C.2.1
  suffices hmain : ∀ (H : Heap) (locs : List Loc), mm_R g A M H → va_S A s.heap H locs → W p l e rm_X7_cut s m args below meth c H locs 0 0 (MQ below (mm_Ti g A r M2) args s 0 0 A) (F0 m 0 ls []) from hmain _ _ hR va_S.rf
  clear hR
  intro H locs hR hS
  have J56 : ∀ (M : mm_M) (x2 : Int32) (y0 : Int32) (y1 : Int32) (y2 : Int32) (y3 : Nat) (H : Heap) (locs : List Loc) (ls : Array Slot), mm_R g A M H → va_S A s.heap H locs → lv_has ls 3 [(2, .int x2)] → ff_X7_cut_j56 M x2 y0 y1 y2 y3 = some (r, M2) → W p l e rm_X7_cut s m args below meth c H locs 0 0 (MQ below (mm_Ti g A r M2) args s 0 0 A) (F0 m 56 ls [.int y0, .int y1, .int y2, .ref y3]) := by
    intro M x2 y0 y1 y2 y3 H locs ls hR hS hl hf
    unfold ff_X7_cut_j56 at hf
    refine lv_iadd hx hb dX7_cut_56 ?_
    obtain ⟨M14, eM14, hf⟩ := mm_bd hf
    refine mm_iast C hR hS eM14 dX7_cut_57 (fun H locs hR hS => ?_)
    refine lv_iload_n hx hb dX7_cut_58 rfl (lv_at hl 0 rfl) ?_
    refine lv_if_eq (tgt := 66) hx hb dX7_cut_59 (by decide) (fun hc => ?_) (fun hc => ?_)
    · have hf := mm_if1 hc hf
      refine lv_iconst (v := 0) hx hb dX7_cut_66 (by decide) ?_
      exact mm_ire C hR hS hr ((mm_pe hf).1) (mm_pe hf).2 dX7_cut_67
    · have hf := mm_if0 hc hf
      refine lv_iconst (v := 1) hx hb dX7_cut_62 (by decide) ?_
      refine lv_goto (tgt := 67) hx hb dX7_cut_63 (by decide) ?_
      exact mm_ire C hR hS hr ((mm_pe hf).1) (mm_pe hf).2 dX7_cut_67
  unfold ff_X7_cut at hf
  refine lv_aload_n hx hb dX7_cut_0 rfl (lv_at hl 0 rfl) ?_
  refine lv_iload_n hx hb dX7_cut_1 rfl (lv_at hl 1 rfl) ?_
  obtain ⟨u1, eu1, hf⟩ := mm_bd hf
  obtain ⟨v2, ev2, hf⟩ := mm_bd hf
  refine mm_callVi (As := [.int x1]) (rest := []) C hR hS hl.1 vs_X7_109 eu1 (jj_X7_isStrip l g A M x0 x1 v2 ev2) ⟨rfl, rfl, (Nat.le_of_ble_eq_true rfl), (Nat.le_of_ble_eq_true rfl)⟩ rfl (Nat.le_of_ble_eq_true rfl) ⟨Nat.zero_le _, Nat.zero_le _⟩ rfl dX7_cut_2 (fun H locs hR hS => ?_)
  refine lv_if_ne (tgt := 10) hx hb dX7_cut_5 (by decide) (fun hc => ?_) (fun hc => ?_)
  · have hf := mm_if0 hc hf
    refine lv_aload_n hx hb dX7_cut_10 rfl (lv_at hl 0 rfl) ?_
    refine lv_iload_n hx hb dX7_cut_11 rfl (lv_at hl 1 rfl) ?_
    obtain ⟨u3, eu3, hf⟩ := mm_bd hf
    obtain ⟨v4, ev4, hf⟩ := mm_bd hf
    refine mm_callVi (As := [.int x1]) (rest := []) C hR hS hl.1 vs_X7_116 eu3 (jj_X7_canCut l g A M x0 x1 v4 ev4) ⟨rfl, rfl, (Nat.le_of_ble_eq_true rfl), (Nat.le_of_ble_eq_true rfl)⟩ rfl (Nat.le_of_ble_eq_true rfl) ⟨Nat.zero_le _, Nat.zero_le _⟩ rfl dX7_cut_12 (fun H locs hR hS => ?_)
    refine lv_if_ne (tgt := 21) hx hb dX7_cut_15 (by decide) (fun hc => ?_) (fun hc => ?_)
    · have hf := mm_if0 hc hf
      refine lv_aload_n hx hb dX7_cut_21 rfl (lv_at hl 0 rfl) ?_
      obtain ⟨u5, eu5, hf⟩ := mm_bd hf
      obtain ⟨M6, eM6, hf⟩ := mm_bd hf
      refine mm_callVv (As := []) (rest := []) C hR hS hl.1 vs_X7_62 eu5 (jj_X7_keep l g A M x0 M6 eM6) ⟨rfl, rfl, (Nat.le_of_ble_eq_true rfl), (Nat.le_of_ble_eq_true rfl)⟩ rfl (Nat.le_of_ble_eq_true rfl) ⟨Nat.zero_le _, Nat.zero_le _⟩ rfl dX7_cut_22 (fun H locs hR hS => ?_)
      refine lv_aload_n hx hb dX7_cut_25 rfl (lv_at hl 0 rfl) ?_
      refine lv_iload_n hx hb dX7_cut_26 rfl (lv_at hl 1 rfl) ?_
      obtain ⟨u7, eu7, hf⟩ := mm_bd hf
      obtain ⟨⟨v8, M9⟩, ev8, hf⟩ := mm_bd hf
      have hf := mm_u2e hf
      refine mm_callVi (As := [.int x1]) (rest := []) C hR hS hl.1 vs_X7_119 eu7 (jj_X7_cuts l g A M6 x0 x1 v8 M9 ev8) ⟨rfl, rfl, (Nat.le_of_ble_eq_true rfl), (Nat.le_of_ble_eq_true rfl)⟩ rfl (Nat.le_of_ble_eq_true rfl) ⟨Nat.zero_le _, Nat.zero_le _⟩ rfl dX7_cut_27 (fun H locs hR hS => ?_)
      refine lv_istore_n (lv' := [(2, .int v8), (0, .ref x0), (1, .int x1)]) hx hb dX7_cut_30 rfl hl (by decide) rfl (fun ls hl => ?_)
      refine lv_aload_n hx hb dX7_cut_31 rfl (lv_at hl 1 rfl) ?_
      obtain ⟨v10, ev10, hf⟩ := mm_bd hf
      refine mm_getR C hR fs_X7_7 ev10 dX7_cut_32 ?_
      refine lv_sipush (v := 308) hx hb dX7_cut_35 (by decide) ?_
      refine lv_aload_n hx hb dX7_cut_38 rfl (lv_at hl 1 rfl) ?_
      refine lv_iload_n hx hb dX7_cut_39 rfl (lv_at hl 2 rfl) ?_
      refine lv_iconst (v := 1) hx hb dX7_cut_40 (by decide) ?_
      obtain ⟨u11, eu11, hf⟩ := mm_bd hf
      obtain ⟨v12, ev12, hf⟩ := mm_bd hf
      refine mm_callVi (As := [.int x1, .int (1 : Int32)]) (rest := [.int (308 : Int32), .ref v10]) C hR hS hl.1 vs_X7_85 eu11 (jj_X7_of l g A M9 x0 x1 (1 : Int32) v12 ev12) ⟨rfl, rfl, (Nat.le_of_ble_eq_true rfl), (Nat.le_of_ble_eq_true rfl)⟩ rfl (Nat.le_of_ble_eq_true rfl) ⟨Nat.zero_le _, Nat.zero_le _⟩ rfl dX7_cut_41 (fun H locs hR hS => ?_)
      refine lv_iadd hx hb dX7_cut_44 ?_
      refine lv_dup2_11 hx hb dX7_cut_45 rfl rfl ?_
      obtain ⟨v13, ev13, hf⟩ := mm_bd hf
      refine mm_iald C hR ev13 dX7_cut_46 ?_
      refine lv_iload_n hx hb dX7_cut_47 rfl (lv_at hl 0 rfl) ?_
      refine lv_if_eq (tgt := 55) hx hb dX7_cut_48 (by decide) (fun hc => ?_) (fun hc => ?_)
      · have hf := mm_if1 hc hf
        refine lv_iconst (v := 0) hx hb dX7_cut_55 (by decide) ?_
        exact J56 M9 v8 (0 : Int32) v13 ((308 : Int32) + v12) v10 H locs ls hR hS (lv_sub hl [0] rfl) hf
      · have hf := mm_if0 hc hf
        refine lv_iconst (v := 1) hx hb dX7_cut_51 (by decide) ?_
        refine lv_goto (tgt := 56) hx hb dX7_cut_52 (by decide) ?_
        exact J56 M9 v8 (1 : Int32) v13 ((308 : Int32) + v12) v10 H locs ls hR hS (lv_sub hl [0] rfl) hf
    · have hf := mm_if1 hc hf
      refine lv_bipush (v := -2) hx hb dX7_cut_18 (by decide) ?_
      exact mm_ire C hR hS hr ((mm_pe hf).1) (mm_pe hf).2 dX7_cut_20
  · have hf := mm_if1 hc hf
    refine lv_iconst (v := -1) hx hb dX7_cut_8 (by decide) ?_
    exact mm_ire C hR hS hr ((mm_pe hf).1) (mm_pe hf).2 dX7_cut_9
def ff_X7_still_j57 (M : mm_M) (x0 : Nat) (x1 : Int32) (x2 : Int32) (x4 : Int32) (y0 : Int32) (y1 : Int32) : Option ((Int32 × Int32) ⊕ (Int32 × Int32)) := Option.bind (mm_gR 7 M x0 0) fun v7 => Option.bind (mm_aI 0 M v7 (2 : Int32)) fun v8 => Option.bind (mm_gR 7 M x0 0) fun v9 => Option.bind (mm_aI 0 M v9 (3 : Int32)) fun v10 => some (.inl ((y1 + y0), (x4 + (v8 + v10))))
def ff_X7_still_j56 (M : mm_M) (x0 : Nat) (x1 : Int32) (x2 : Int32) (x4 : Int32) (y0 : Int32) : Option ((Int32 × Int32) ⊕ (Int32 × Int32)) := ff_X7_still_j57 M x0 x1 x2 x4 (1 : Int32) y0
def ff_X7_still_l10 (M : mm_M) (x0 : Nat) (x1 : Int32) (x2 : Int32) (x3 : Int32) (x4 : Int32) : Option ((Int32 × Int32) ⊕ (Int32 × Int32)) := Option.bind (mm_gR 7 M x0 0) fun v3 => Option.bind (mm_aI 0 M v3 (2 : Int32)) fun v4 => Option.bind (mm_ck 7 M x0) fun u5 => Option.bind (ff_X7_of M x0 x1 (0 : Int32)) fun v6 => if v6 < (x4 + v4) then (some (.inr (x3, x4))) else (if x2 = (0 : Int32) then (ff_X7_still_j56 M x0 x1 x2 x4 x3) else (Option.bind (mm_gR 7 M x0 0) fun v11 => Option.bind (mm_aI 0 M v11 (2 : Int32)) fun v12 => Option.bind (mm_ck 7 M x0) fun u13 => Option.bind (ff_X7_hasFlaw M x0 x1 x4 (x4 + v12)) fun v14 => if v14 = (0 : Int32) then (ff_X7_still_j56 M x0 x1 x2 x4 x3) else (ff_X7_still_j57 M x0 x1 x2 x4 (0 : Int32) x3)))
def ff_X7_still (M : mm_M) (x0 : Nat) (x1 : Int32) (x2 : Int32) : Option Int32 := Option.bind (mm_ck 7 M x0) fun u1 => Option.bind (ff_X7_of M x0 x1 (2 : Int32)) fun v2 => Option.bind (mm_it (mm_u2 (ff_X7_still_l10 M x0 x1 x2)) mm_fu ((0 : Int32), v2)) fun e15 => mm_u2 (fun x3_16 x4_17 => some x3_16) e15
def rm_X7_still : Room := { frames := 2, cells := 0, slots := 0, locals := 47 }
set_option maxHeartbeats 4000000 in
set_option maxRecDepth 100000 in
theorem jj_X7_still (l : Launch) (g : mm_G) (A : Nat → Prop) (M : mm_M) (x0 : Nat) (x1 : Int32) (x2 : Int32) (r : Int32) (hf : ff_X7_still M x0 x1 x2 = some r) : Met l yX7_still (mm_ws yX7_still cX7_still 5 (Option.some Jvm.ClassFile.FieldType.int)) rm_X7_still (va_Pc [.ref x0, .int x1, .int x2] (mm_B g A M)) (mm_Ti g A r M) 0 0 A := by
  refine mm_met (g := g) (lv := [(0, .ref x0), (1, .int x1), (2, .int x2)]) (fun U h => h.2) (by decide +kernel) (Nat.le_of_ble_eq_true rfl) rfl ?_
  intro p e s m args below meth c ls C hr hnm hB hl
  obtain ⟨hR, hK⟩ := hB
  have hx := C.1
  have hb := C.2.1
  suffices hmain : ∀ (H : Heap) (locs : List Loc), mm_R g A M H → va_S A s.heap H locs → W p l e rm_X7_still s m args below meth c H locs 0 0 (MQ below (mm_Ti g A r M) args s 0 0 A) (F0 m 0 ls []) from hmain _ _ hR va_S.rf
  clear hR
  intro H locs hR hS
  have L10 : ∀ (x0 : Nat) (x1 : Int32) (x2 : Int32) (e1 : Int32 × Int32) (hX : ∀ (x3 : Int32) (x4 : Int32), e1 = (x3, x4) → ∀ (H : Heap) (locs : List Loc) (ls : Array Slot), mm_R g A M H → va_S A s.heap H locs → lv_has ls 5 [(3, .int x3)] → W p l e rm_X7_still s m args below meth c H locs 0 0 (MQ below (mm_Ti g A r M) args s 0 0 A) (F0 m 80 ls [])) (n : Nat) (x3 : Int32) (x4 : Int32), mm_it (mm_u2 (ff_X7_still_l10 M x0 x1 x2)) n (x3, x4) = some e1 → ∀ (H : Heap) (locs : List Loc) (ls : Array Slot), mm_R g A M H → va_S A s.heap H locs → lv_has ls 5 [(0, .ref x0), (1, .int x1), (2, .int x2), (3, .int x3), (4, .int x4)] → W p l e rm_X7_still s m args below meth c H locs 0 0 (MQ below (mm_Ti g A r M) args s 0 0 A) (F0 m 10 ls []) := by
    intro x0 x1 x2 e1 hX n x3 x4 hit
    refine mm_itW (Hd := fun st => ∀ (H : Heap) (locs : List Loc) (ls : Array Slot), mm_R g A M H → va_S A s.heap H locs → lv_has ls 5 [(0, .ref x0), (1, .int x1), (2, .int x2), (3, .int st.1), (4, .int st.2)] → W p l e rm_X7_still s m args below meth c H locs 0 0 (MQ below (mm_Ti g A r M) args s 0 0 A) (F0 m 10 ls [])) (fun st y hf hin hout => ?_) n (x3, x4) hit
    obtain ⟨x3, x4⟩ := st
    have hf := mm_u2e hf
    have J57 : ∀ (x4 : Int32) (y0 : Int32) (y1 : Int32) (H : Heap) (locs : List Loc) (ls : Array Slot), mm_R g A M H → va_S A s.heap H locs → lv_has ls 5 [(0, .ref x0), (1, .int x1), (2, .int x2), (4, .int x4)] → ff_X7_still_j57 M x0 x1 x2 x4 y0 y1 = some y → W p l e rm_X7_still s m args below meth c H locs 0 0 (MQ below (mm_Ti g A r M) args s 0 0 A) (F0 m 57 ls [.int y0, .int y1]) := by
      intro x4 y0 y1 H locs ls hR hS hl hf
      unfold ff_X7_still_j57 at hf
      refine lv_iadd hx hb dX7_still_57 ?_
      refine lv_istore_n (lv' := [(3, .int (y1 + y0)), (0, .ref x0), (1, .int x1), (2, .int x2), (4, .int x4)]) hx hb dX7_still_58 rfl hl (by decide) rfl (fun ls hl => ?_)
      refine lv_iload hx hb dX7_still_59 (lv_at hl 4 rfl) ?_
      refine lv_aload_n hx hb dX7_still_61 rfl (lv_at hl 1 rfl) ?_
      obtain ⟨v7, ev7, hf⟩ := mm_bd hf
      refine mm_getR C hR fs_X7_7 ev7 dX7_still_62 ?_
      refine lv_iconst (v := 2) hx hb dX7_still_65 (by decide) ?_
      obtain ⟨v8, ev8, hf⟩ := mm_bd hf
      refine mm_iald C hR ev8 dX7_still_66 ?_
      refine lv_aload_n hx hb dX7_still_67 rfl (lv_at hl 1 rfl) ?_
      obtain ⟨v9, ev9, hf⟩ := mm_bd hf
      refine mm_getR C hR fs_X7_7 ev9 dX7_still_68 ?_
      refine lv_iconst (v := 3) hx hb dX7_still_71 (by decide) ?_
      obtain ⟨v10, ev10, hf⟩ := mm_bd hf
      refine mm_iald C hR ev10 dX7_still_72 ?_
      refine lv_iadd hx hb dX7_still_73 ?_
      refine lv_iadd hx hb dX7_still_74 ?_
      refine lv_istore (lv' := [(4, .int (x4 + (v8 + v10))), (3, .int (y1 + y0)), (0, .ref x0), (1, .int x1), (2, .int x2)]) hx hb dX7_still_75 hl (by decide) rfl (fun ls hl => ?_)
      refine lv_goto (tgt := 10) hx hb dX7_still_77 (by decide) ?_
      exact hin _ (Option.some.inj hf).symm H locs ls hR hS (lv_sub hl [2, 3, 4, 1, 0] rfl)
    have J56 : ∀ (x4 : Int32) (y0 : Int32) (H : Heap) (locs : List Loc) (ls : Array Slot), mm_R g A M H → va_S A s.heap H locs → lv_has ls 5 [(0, .ref x0), (1, .int x1), (2, .int x2), (4, .int x4)] → ff_X7_still_j56 M x0 x1 x2 x4 y0 = some y → W p l e rm_X7_still s m args below meth c H locs 0 0 (MQ below (mm_Ti g A r M) args s 0 0 A) (F0 m 56 ls [.int y0]) := by
      intro x4 y0 H locs ls hR hS hl hf
      unfold ff_X7_still_j56 at hf
      refine lv_iconst (v := 1) hx hb dX7_still_56 (by decide) ?_
      exact J57 x4 (1 : Int32) y0 H locs ls hR hS (lv_sub hl [0, 1, 2, 3] rfl) hf
    intro H locs ls hR hS hl
    unfold ff_X7_still_l10 at hf
    refine lv_iload hx hb dX7_still_10 (lv_at hl 4 rfl) ?_
    refine lv_aload_n hx hb dX7_still_12 rfl (lv_at hl 0 rfl) ?_
    obtain ⟨v3, ev3, hf⟩ := mm_bd hf
    refine mm_getR C hR fs_X7_7 ev3 dX7_still_13 ?_
    refine lv_iconst (v := 2) hx hb dX7_still_16 (by decide) ?_
    obtain ⟨v4, ev4, hf⟩ := mm_bd hf
    refine mm_iald C hR ev4 dX7_still_17 ?_
    refine lv_iadd hx hb dX7_still_18 ?_
    refine lv_aload_n hx hb dX7_still_19 rfl (lv_at hl 0 rfl) ?_
    refine lv_iload_n hx hb dX7_still_20 rfl (lv_at hl 1 rfl) ?_
    refine lv_iconst (v := 0) hx hb dX7_still_21 (by decide) ?_
    obtain ⟨u5, eu5, hf⟩ := mm_bd hf
    obtain ⟨v6, ev6, hf⟩ := mm_bd hf
    refine mm_callVi (As := [.int x1, .int (0 : Int32)]) (rest := [.int (x4 + v4)]) C hR hS hl.1 vs_X7_85 eu5 (jj_X7_of l g A M x0 x1 (0 : Int32) v6 ev6) ⟨rfl, rfl, (Nat.le_of_ble_eq_true rfl), (Nat.le_of_ble_eq_true rfl)⟩ rfl (Nat.le_of_ble_eq_true rfl) ⟨Nat.zero_le _, Nat.zero_le _⟩ rfl dX7_still_22 (fun H locs hR hS => ?_)
    refine lv_icmp_gt (tgt := 80) hx hb dX7_still_25 (by decide) (fun hc => ?_) (fun hc => ?_)
    · have hf := mm_if1 hc hf
      exact hX _ _ (hout _ (Option.some.inj hf).symm).symm H locs ls hR hS (lv_sub hl [3] rfl)
    · have hf := mm_if0 hc hf
      refine lv_iload_n hx hb dX7_still_28 rfl (lv_at hl 3 rfl) ?_
      refine lv_iload_n hx hb dX7_still_29 rfl (lv_at hl 2 rfl) ?_
      refine lv_if_eq (tgt := 56) hx hb dX7_still_30 (by decide) (fun hc => ?_) (fun hc => ?_)
      · have hf := mm_if1 hc hf
        exact J56 x4 x3 H locs ls hR hS (lv_sub hl [0, 1, 2, 4] rfl) hf
      · have hf := mm_if0 hc hf
        refine lv_aload_n hx hb dX7_still_33 rfl (lv_at hl 0 rfl) ?_
        refine lv_iload_n hx hb dX7_still_34 rfl (lv_at hl 1 rfl) ?_
        refine lv_iload hx hb dX7_still_35 (lv_at hl 4 rfl) ?_
        refine lv_iload hx hb dX7_still_37 (lv_at hl 4 rfl) ?_
        refine lv_aload_n hx hb dX7_still_39 rfl (lv_at hl 0 rfl) ?_
        obtain ⟨v11, ev11, hf⟩ := mm_bd hf
        refine mm_getR C hR fs_X7_7 ev11 dX7_still_40 ?_
        refine lv_iconst (v := 2) hx hb dX7_still_43 (by decide) ?_
        obtain ⟨v12, ev12, hf⟩ := mm_bd hf
        refine mm_iald C hR ev12 dX7_still_44 ?_
        refine lv_iadd hx hb dX7_still_45 ?_
        obtain ⟨u13, eu13, hf⟩ := mm_bd hf
        obtain ⟨v14, ev14, hf⟩ := mm_bd hf
        refine mm_callVi (As := [.int x1, .int x4, .int (x4 + v12)]) (rest := [.int x3]) C hR hS hl.1 vs_X7_113 eu13 (jj_X7_hasFlaw l g A M x0 x1 x4 (x4 + v12) v14 ev14) ⟨rfl, rfl, (Nat.le_of_ble_eq_true rfl), (Nat.le_of_ble_eq_true rfl)⟩ rfl (Nat.le_of_ble_eq_true rfl) ⟨Nat.zero_le _, Nat.zero_le _⟩ rfl dX7_still_46 (fun H locs hR hS => ?_)
        refine lv_if_eq (tgt := 56) hx hb dX7_still_49 (by decide) (fun hc => ?_) (fun hc => ?_)
        · have hf := mm_if1 hc hf
          exact J56 x4 x3 H locs ls hR hS (lv_sub hl [0, 1, 2, 4] rfl) hf
        · have hf := mm_if0 hc hf
          refine lv_iconst (v := 0) hx hb dX7_still_52 (by decide) ?_
          refine lv_goto (tgt := 57) hx hb dX7_still_53 (by decide) ?_
          exact J57 x4 (0 : Int32) x3 H locs ls hR hS (lv_sub hl [0, 1, 2, 4] rfl) hf
  unfold ff_X7_still at hf
  refine lv_iconst (v := 0) hx hb dX7_still_0 (by decide) ?_
  refine lv_istore_n (lv' := [(3, .int (0 : Int32)), (0, .ref x0), (1, .int x1), (2, .int x2)]) hx hb dX7_still_1 rfl hl (by decide) rfl (fun ls hl => ?_)
  refine lv_aload_n hx hb dX7_still_2 rfl (lv_at hl 1 rfl) ?_
  refine lv_iload_n hx hb dX7_still_3 rfl (lv_at hl 2 rfl) ?_
  refine lv_iconst (v := 2) hx hb dX7_still_4 (by decide) ?_
  obtain ⟨u1, eu1, hf⟩ := mm_bd hf
  obtain ⟨v2, ev2, hf⟩ := mm_bd hf
  refine mm_callVi (As := [.int x1, .int (2 : Int32)]) (rest := []) C hR hS hl.1 vs_X7_85 eu1 (jj_X7_of l g A M x0 x1 (2 : Int32) v2 ev2) ⟨rfl, rfl, (Nat.le_of_ble_eq_true rfl), (Nat.le_of_ble_eq_true rfl)⟩ rfl (Nat.le_of_ble_eq_true rfl) ⟨Nat.zero_le _, Nat.zero_le _⟩ rfl dX7_still_5 (fun H locs hR hS => ?_)
  refine lv_istore (lv' := [(4, .int v2), (3, .int (0 : Int32)), (0, .ref x0), (1, .int x1), (2, .int x2)]) hx hb dX7_still_8 hl (by decide) rfl (fun ls hl => ?_)
  obtain ⟨e15, he15, hf⟩ := mm_bd hf
  refine L10 x0 x1 x2 e15 (fun x3_16 x4_17 he => ?_) _ (0 : Int32) v2 he15 H locs ls hR hS (lv_sub hl [2, 3, 4, 1, 0] rfl)
  subst he
  intro H locs ls hR hS hl
  have hf := mm_u2e hf
  refine lv_iload_n hx hb dX7_still_80 rfl (lv_at hl 0 rfl) ?_
  exact mm_ire C hR hS hr ((Option.some.inj hf)) rfl dX7_still_81
def ff_X7_partOf_j61 (M : mm_M) (y0 : Int32) (y1 : Int32) (y2 : Nat) : Option (Int32) := Option.bind (mm_ck 7 M y2) fun u8 => Option.bind (ff_X7_still M y2 y1 y0) fun v9 => some v9
def ff_X7_partOf_j49 (M : mm_M) (x0 : Nat) (x1 : Int32) (x2 : Int32) : Option (Int32) := if x2 = (5 : Int32) then (ff_X7_partOf_j61 M (1 : Int32) x1 x0) else (ff_X7_partOf_j61 M (0 : Int32) x1 x0)
def ff_X7_partOf (M : mm_M) (x0 : Nat) (x1 : Int32) (x2 : Int32) : Option Int32 := if x2 = (2 : Int32) then (Option.bind (mm_ck 7 M x0) fun u2 => Option.bind (ff_X7_left M x0 x1) fun v3 => some v3) else (if x2 = (3 : Int32) then (Option.bind (mm_ck 7 M x0) fun u5 => Option.bind (ff_X7_of M x0 x1 (3 : Int32)) fun v6 => some v6) else (if x2 = (4 : Int32) then (ff_X7_partOf_j49 M x0 x1 x2) else (if x2 = (5 : Int32) then (ff_X7_partOf_j49 M x0 x1 x2) else (if x2 = (6 : Int32) then (Option.bind (mm_ck 7 M x0) fun u12 => Option.bind (ff_X7_of M x0 x1 (4 : Int32)) fun v13 => some v13) else (Option.bind (mm_ck 7 M x0) fun u14 => Option.bind (ff_X7_of M x0 x1 x2) fun v15 => some v15)))))
def rm_X7_partOf : Room := { frames := 3, cells := 0, slots := 0, locals := 71 }
set_option maxHeartbeats 4000000 in
set_option maxRecDepth 100000 in
theorem jj_X7_partOf (l : Launch) (g : mm_G) (A : Nat → Prop) (M : mm_M) (x0 : Nat) (x1 : Int32) (x2 : Int32) (r : Int32) (hf : ff_X7_partOf M x0 x1 x2 = some r) : Met l yX7_partOf (mm_ws yX7_partOf cX7_partOf 3 (Option.some Jvm.ClassFile.FieldType.int)) rm_X7_partOf (va_Pc [.ref x0, .int x1, .int x2] (mm_B g A M)) (mm_Ti g A r M) 0 0 A := by
  refine mm_met (g := g) (lv := [(0, .ref x0), (1, .int x1), (2, .int x2)]) (fun U h => h.2) (by decide +kernel) (Nat.le_of_ble_eq_true rfl) rfl ?_
  intro p e s m args below meth c ls C hr hnm hB hl
  obtain ⟨hR, hK⟩ := hB
  have hx := C.1
  have hb := C.2.1
  suffices hmain : ∀ (H : Heap) (locs : List Loc), mm_R g A M H → va_S A s.heap H locs → W p l e rm_X7_partOf s m args below meth c H locs 0 0 (MQ below (mm_Ti g A r M) args s 0 0 A) (F0 m 0 ls []) from hmain _ _ hR va_S.rf
  clear hR
  intro H locs hR hS
  have J61 : ∀ (y0 : Int32) (y1 : Int32) (y2 : Nat) (H : Heap) (locs : List Loc) (ls : Array Slot), mm_R g A M H → va_S A s.heap H locs → lv_has ls 3 [] → ff_X7_partOf_j61 M y0 y1 y2 = some r → W p l e rm_X7_partOf s m args below meth c H locs 0 0 (MQ below (mm_Ti g A r M) args s 0 0 A) (F0 m 61 ls [.int y0, .int y1, .ref y2]) := by
    intro y0 y1 y2 H locs ls hR hS hl hf
    unfold ff_X7_partOf_j61 at hf
    obtain ⟨u8, eu8, hf⟩ := mm_bd hf
    obtain ⟨v9, ev9, hf⟩ := mm_bd hf
    refine mm_callVi (As := [.int y1, .int y0]) (rest := []) C hR hS hl.1 vs_X7_122 eu8 (jj_X7_still l g A M y2 y1 y0 v9 ev9) ⟨rfl, rfl, (Nat.le_of_ble_eq_true rfl), (Nat.le_of_ble_eq_true rfl)⟩ rfl (Nat.le_of_ble_eq_true rfl) ⟨Nat.zero_le _, Nat.zero_le _⟩ rfl dX7_partOf_61 (fun H locs hR hS => ?_)
    exact mm_ire C hR hS hr ((Option.some.inj hf)) rfl dX7_partOf_64
  have J49 : ∀ (x0 : Nat) (x1 : Int32) (x2 : Int32) (H : Heap) (locs : List Loc) (ls : Array Slot), mm_R g A M H → va_S A s.heap H locs → lv_has ls 3 [(0, .ref x0), (1, .int x1), (2, .int x2)] → ff_X7_partOf_j49 M x0 x1 x2 = some r → W p l e rm_X7_partOf s m args below meth c H locs 0 0 (MQ below (mm_Ti g A r M) args s 0 0 A) (F0 m 49 ls []) := by
    intro x0 x1 x2 H locs ls hR hS hl hf
    unfold ff_X7_partOf_j49 at hf
    refine lv_aload_n hx hb dX7_partOf_49 rfl (lv_at hl 0 rfl) ?_
    refine lv_iload_n hx hb dX7_partOf_50 rfl (lv_at hl 1 rfl) ?_
    refine lv_iload_n hx hb dX7_partOf_51 rfl (lv_at hl 2 rfl) ?_
    refine lv_iconst (v := 5) hx hb dX7_partOf_52 (by decide) ?_
    refine lv_icmp_ne (tgt := 60) hx hb dX7_partOf_53 (by decide) (fun hc => ?_) (fun hc => ?_)
    · have hf := mm_if0 hc hf
      refine lv_iconst (v := 0) hx hb dX7_partOf_60 (by decide) ?_
      exact J61 (0 : Int32) x1 x0 H locs ls hR hS (lv_sub hl [] rfl) hf
    · have hf := mm_if1 hc hf
      refine lv_iconst (v := 1) hx hb dX7_partOf_56 (by decide) ?_
      refine lv_goto (tgt := 61) hx hb dX7_partOf_57 (by decide) ?_
      exact J61 (1 : Int32) x1 x0 H locs ls hR hS (lv_sub hl [] rfl) hf
  unfold ff_X7_partOf at hf
  refine lv_iload_n hx hb dX7_partOf_0 rfl (lv_at hl 2 rfl) ?_
  by_cases hk1 : x2 = (2 : Int32)
  · have hf := mm_if1 hk1 hf
    refine lv_tableIn (off := 35) (tgt := 36) hx hb dX7_partOf_1 (by rw [hk1]; decide) (by rw [hk1]; decide) (by rw [hk1]; decide +kernel) (by decide) ?_
    refine lv_aload_n hx hb dX7_partOf_36 rfl (lv_at hl 0 rfl) ?_
    refine lv_iload_n hx hb dX7_partOf_37 rfl (lv_at hl 1 rfl) ?_
    obtain ⟨u2, eu2, hf⟩ := mm_bd hf
    obtain ⟨v3, ev3, hf⟩ := mm_bd hf
    refine mm_callVi (As := [.int x1]) (rest := []) C hR hS hl.1 vs_X7_88 eu2 (jj_X7_left l g A M x0 x1 v3 ev3) ⟨rfl, rfl, (Nat.le_of_ble_eq_true rfl), (Nat.le_of_ble_eq_true rfl)⟩ rfl (Nat.le_of_ble_eq_true rfl) ⟨Nat.zero_le _, Nat.zero_le _⟩ rfl dX7_partOf_38 (fun H locs hR hS => ?_)
    exact mm_ire C hR hS hr ((Option.some.inj hf)) rfl dX7_partOf_41
  · have hf := mm_if0 hk1 hf
    by_cases hk4 : x2 = (3 : Int32)
    · have hf := mm_if1 hk4 hf
      refine lv_tableIn (off := 41) (tgt := 42) hx hb dX7_partOf_1 (by rw [hk4]; decide) (by rw [hk4]; decide) (by rw [hk4]; decide +kernel) (by decide) ?_
      refine lv_aload_n hx hb dX7_partOf_42 rfl (lv_at hl 0 rfl) ?_
      refine lv_iload_n hx hb dX7_partOf_43 rfl (lv_at hl 1 rfl) ?_
      refine lv_iconst (v := 3) hx hb dX7_partOf_44 (by decide) ?_
      obtain ⟨u5, eu5, hf⟩ := mm_bd hf
      obtain ⟨v6, ev6, hf⟩ := mm_bd hf
      refine mm_callVi (As := [.int x1, .int (3 : Int32)]) (rest := []) C hR hS hl.1 vs_X7_85 eu5 (jj_X7_of l g A M x0 x1 (3 : Int32) v6 ev6) ⟨rfl, rfl, (Nat.le_of_ble_eq_true rfl), (Nat.le_of_ble_eq_true rfl)⟩ rfl (Nat.le_of_ble_eq_true rfl) ⟨Nat.zero_le _, Nat.zero_le _⟩ rfl dX7_partOf_45 (fun H locs hR hS => ?_)
      exact mm_ire C hR hS hr ((Option.some.inj hf)) rfl dX7_partOf_48
    · have hf := mm_if0 hk4 hf
      by_cases hk7 : x2 = (4 : Int32)
      · have hf := mm_if1 hk7 hf
        refine lv_tableIn (off := 48) (tgt := 49) hx hb dX7_partOf_1 (by rw [hk7]; decide) (by rw [hk7]; decide) (by rw [hk7]; decide +kernel) (by decide) ?_
        exact J49 x0 x1 x2 H locs ls hR hS (lv_sub hl [0, 1, 2] rfl) hf
      · have hf := mm_if0 hk7 hf
        by_cases hk10 : x2 = (5 : Int32)
        · have hf := mm_if1 hk10 hf
          refine lv_tableIn (off := 48) (tgt := 49) hx hb dX7_partOf_1 (by rw [hk10]; decide) (by rw [hk10]; decide) (by rw [hk10]; decide +kernel) (by decide) ?_
          exact J49 x0 x1 x2 H locs ls hR hS (lv_sub hl [0, 1, 2] rfl) hf
        · have hf := mm_if0 hk10 hf
          by_cases hk11 : x2 = (6 : Int32)
          · have hf := mm_if1 hk11 hf
            refine lv_tableIn (off := 64) (tgt := 65) hx hb dX7_partOf_1 (by rw [hk11]; decide) (by rw [hk11]; decide) (by rw [hk11]; decide +kernel) (by decide) ?_
            refine lv_aload_n hx hb dX7_partOf_65 rfl (lv_at hl 0 rfl) ?_
            refine lv_iload_n hx hb dX7_partOf_66 rfl (lv_at hl 1 rfl) ?_
            refine lv_iconst (v := 4) hx hb dX7_partOf_67 (by decide) ?_
            obtain ⟨u12, eu12, hf⟩ := mm_bd hf
            obtain ⟨v13, ev13, hf⟩ := mm_bd hf
            refine mm_callVi (As := [.int x1, .int (4 : Int32)]) (rest := []) C hR hS hl.1 vs_X7_85 eu12 (jj_X7_of l g A M x0 x1 (4 : Int32) v13 ev13) ⟨rfl, rfl, (Nat.le_of_ble_eq_true rfl), (Nat.le_of_ble_eq_true rfl)⟩ rfl (Nat.le_of_ble_eq_true rfl) ⟨Nat.zero_le _, Nat.zero_le _⟩ rfl dX7_partOf_68 (fun H locs hR hS => ?_)
            exact mm_ire C hR hS hr ((Option.some.inj hf)) rfl dX7_partOf_71
          · have hf := mm_if0 hk11 hf
            refine lv_tableOut (tgt := 72) hx hb dX7_partOf_1 (by have qhk1 := lv_neT (a := 2) hk1 rfl; have qhk4 := lv_neT (a := 3) hk4 rfl; have qhk7 := lv_neT (a := 4) hk7 rfl; have qhk10 := lv_neT (a := 5) hk10 rfl; have qhk11 := lv_neT (a := 6) hk11 rfl; omega) (by decide) ?_
            refine lv_aload_n hx hb dX7_partOf_72 rfl (lv_at hl 0 rfl) ?_
            refine lv_iload_n hx hb dX7_partOf_73 rfl (lv_at hl 1 rfl) ?_
            refine lv_iload_n hx hb dX7_partOf_74 rfl (lv_at hl 2 rfl) ?_
            obtain ⟨u14, eu14, hf⟩ := mm_bd hf
            obtain ⟨v15, ev15, hf⟩ := mm_bd hf
            refine mm_callVi (As := [.int x1, .int x2]) (rest := []) C hR hS hl.1 vs_X7_85 eu14 (jj_X7_of l g A M x0 x1 x2 v15 ev15) ⟨rfl, rfl, (Nat.le_of_ble_eq_true rfl), (Nat.le_of_ble_eq_true rfl)⟩ rfl (Nat.le_of_ble_eq_true rfl) ⟨Nat.zero_le _, Nat.zero_le _⟩ rfl dX7_partOf_75 (fun H locs hR hS => ?_)
            exact mm_ire C hR hS hr ((Option.some.inj hf)) rfl dX7_partOf_78
def ff_X7_stripOf (M : mm_M) (x0 : Nat) (x1 : Int32) (x2 : Int32) : Option Int32 := Option.bind (mm_ck 7 M x0) fun u1 => Option.bind (ff_X7_isStrip M x0 x1) fun v2 => if v2 = (0 : Int32) then (some (-1 : Int32)) else (Option.bind (ff_X7_in M x2 (0 : Int32) (6 : Int32)) fun v3 => if v3 = (0 : Int32) then (some (-1 : Int32)) else (Option.bind (mm_ck 7 M x0) fun u4 => Option.bind (ff_X7_partOf M x0 x1 x2) fun v5 => some v5))
def rm_X7_stripOf : Room := { frames := 4, cells := 0, slots := 0, locals := 93 }
set_option maxHeartbeats 4000000 in
set_option maxRecDepth 100000 in
theorem jj_X7_stripOf (l : Launch) (g : mm_G) (A : Nat → Prop) (M : mm_M) (x0 : Nat) (x1 : Int32) (x2 : Int32) (r : Int32) (hf : ff_X7_stripOf M x0 x1 x2 = some r) : Met l yX7_stripOf (mm_ws yX7_stripOf cX7_stripOf 3 (Option.some Jvm.ClassFile.FieldType.int)) rm_X7_stripOf (va_Pc [.ref x0, .int x1, .int x2] (mm_B g A M)) (mm_Ti g A r M) 0 0 A := by
  refine mm_met (g := g) (lv := [(0, .ref x0), (1, .int x1), (2, .int x2)]) (fun U h => h.2) (by decide +kernel) (Nat.le_of_ble_eq_true rfl) rfl ?_
  intro p e s m args below meth c ls C hr hnm hB hl
  obtain ⟨hR, hK⟩ := hB
  have hx := C.1
  have hb := C.2.1
  suffices hmain : ∀ (H : Heap) (locs : List Loc), mm_R g A M H → va_S A s.heap H locs → W p l e rm_X7_stripOf s m args below meth c H locs 0 0 (MQ below (mm_Ti g A r M) args s 0 0 A) (F0 m 0 ls []) from hmain _ _ hR va_S.rf
  clear hR
  intro H locs hR hS
  unfold ff_X7_stripOf at hf
  refine lv_aload_n hx hb dX7_stripOf_0 rfl (lv_at hl 0 rfl) ?_
  refine lv_iload_n hx hb dX7_stripOf_1 rfl (lv_at hl 1 rfl) ?_
  obtain ⟨u1, eu1, hf⟩ := mm_bd hf
  obtain ⟨v2, ev2, hf⟩ := mm_bd hf
  refine mm_callVi (As := [.int x1]) (rest := []) C hR hS hl.1 vs_X7_109 eu1 (jj_X7_isStrip l g A M x0 x1 v2 ev2) ⟨rfl, rfl, (Nat.le_of_ble_eq_true rfl), (Nat.le_of_ble_eq_true rfl)⟩ rfl (Nat.le_of_ble_eq_true rfl) ⟨Nat.zero_le _, Nat.zero_le _⟩ rfl dX7_stripOf_2 (fun H locs hR hS => ?_)
  refine lv_if_eq (tgt := 27) hx hb dX7_stripOf_5 (by decide) (fun hc => ?_) (fun hc => ?_)
  · have hf := mm_if1 hc hf
    refine lv_iconst (v := -1) hx hb dX7_stripOf_27 (by decide) ?_
    exact mm_ire C hR hS hr ((Option.some.inj hf)) rfl dX7_stripOf_28
  · have hf := mm_if0 hc hf
    refine lv_iload_n hx hb dX7_stripOf_8 rfl (lv_at hl 2 rfl) ?_
    refine lv_iconst (v := 0) hx hb dX7_stripOf_9 (by decide) ?_
    refine lv_bipush (v := 6) hx hb dX7_stripOf_10 (by decide) ?_
    obtain ⟨v3, ev3, hf⟩ := mm_bd hf
    refine mm_callSi (As := [.int x2, .int (0 : Int32), .int (6 : Int32)]) (rest := []) C hR hS hl.1 ss_X7_37 (jj_X7_in l g A M x2 (0 : Int32) (6 : Int32) v3 ev3) ⟨rfl, rfl, (Nat.le_of_ble_eq_true rfl), (Nat.le_of_ble_eq_true rfl)⟩ rfl (Nat.le_of_ble_eq_true rfl) ⟨Nat.zero_le _, Nat.zero_le _⟩ rfl dX7_stripOf_12 (fun H locs hR hS => ?_)
    refine lv_if_eq (tgt := 27) hx hb dX7_stripOf_15 (by decide) (fun hc => ?_) (fun hc => ?_)
    · have hf := mm_if1 hc hf
      refine lv_iconst (v := -1) hx hb dX7_stripOf_27 (by decide) ?_
      exact mm_ire C hR hS hr ((Option.some.inj hf)) rfl dX7_stripOf_28
    · have hf := mm_if0 hc hf
      refine lv_aload_n hx hb dX7_stripOf_18 rfl (lv_at hl 0 rfl) ?_
      refine lv_iload_n hx hb dX7_stripOf_19 rfl (lv_at hl 1 rfl) ?_
      refine lv_iload_n hx hb dX7_stripOf_20 rfl (lv_at hl 2 rfl) ?_
      obtain ⟨u4, eu4, hf⟩ := mm_bd hf
      obtain ⟨v5, ev5, hf⟩ := mm_bd hf
      refine mm_callVi (As := [.int x1, .int x2]) (rest := []) C hR hS hl.1 vs_X7_126 eu4 (jj_X7_partOf l g A M x0 x1 x2 v5 ev5) ⟨rfl, rfl, (Nat.le_of_ble_eq_true rfl), (Nat.le_of_ble_eq_true rfl)⟩ rfl (Nat.le_of_ble_eq_true rfl) ⟨Nat.zero_le _, Nat.zero_le _⟩ rfl dX7_stripOf_21 (fun H locs hR hS => ?_)
      refine lv_goto (tgt := 28) hx hb dX7_stripOf_24 (by decide) ?_
      exact mm_ire C hR hS hr ((Option.some.inj hf)) rfl dX7_stripOf_28
def ff_X7_source_j34 (M : mm_M) (x0 : Nat) (x1 : Int32) (x2 : Int32) : Option (Int32 ⊕ (Int32 ⊕ Int32)) := some (.inl (x2 + (1 : Int32)))
def ff_X7_source_l2 (M : mm_M) (x0 : Nat) (x1 : Int32) (x2 : Int32) : Option (Int32 ⊕ (Int32 ⊕ Int32)) := Option.bind (mm_gR 7 M x0 0) fun v1 => Option.bind (mm_aI 0 M v1 (6 : Int32)) fun v2 => if v2 ≤ x2 then (some (.inr (.inl x2))) else (Option.bind (mm_ck 7 M x0) fun u3 => Option.bind (ff_X7_of M x0 x2 (1 : Int32)) fun v4 => if v4 = x1 then (Option.bind (mm_ck 7 M x0) fun u5 => Option.bind (ff_X7_still M x0 x2 (1 : Int32)) fun v6 => if v6 ≤ (0 : Int32) then (ff_X7_source_j34 M x0 x1 x2) else (some (.inr (.inr x2)))) else (ff_X7_source_j34 M x0 x1 x2))
def ff_X7_source (M : mm_M) (x0 : Nat) (x1 : Int32) : Option Int32 := Option.bind (mm_it (mm_u1 (ff_X7_source_l2 M x0 x1)) mm_fu (0 : Int32)) fun e7 => Sum.elim (mm_u1 (fun x2_8 => some (-1 : Int32))) some e7
def rm_X7_source : Room := { frames := 3, cells := 0, slots := 0, locals := 71 }
set_option maxHeartbeats 4000000 in
set_option maxRecDepth 100000 in
theorem jj_X7_source (l : Launch) (g : mm_G) (A : Nat → Prop) (M : mm_M) (x0 : Nat) (x1 : Int32) (r : Int32) (hf : ff_X7_source M x0 x1 = some r) : Met l yX7_source (mm_ws yX7_source cX7_source 3 (Option.some Jvm.ClassFile.FieldType.int)) rm_X7_source (va_Pc [.ref x0, .int x1] (mm_B g A M)) (mm_Ti g A r M) 0 0 A := by
  refine mm_met (g := g) (lv := [(0, .ref x0), (1, .int x1)]) (fun U h => h.2) (by decide +kernel) (Nat.le_of_ble_eq_true rfl) rfl ?_
  intro p e s m args below meth c ls C hr hnm hB hl
  obtain ⟨hR, hK⟩ := hB
  have hx := C.1
  have hb := C.2.1
  suffices hmain : ∀ (H : Heap) (locs : List Loc), mm_R g A M H → va_S A s.heap H locs → W p l e rm_X7_source s m args below meth c H locs 0 0 (MQ below (mm_Ti g A r M) args s 0 0 A) (F0 m 0 ls []) from hmain _ _ hR va_S.rf
  clear hR
  intro H locs hR hS
  have L2 : ∀ (x0 : Nat) (x1 : Int32) (e1 : Int32 ⊕ Int32) (hX : ∀ (x2 : Int32), e1 = .inl x2 → ∀ (H : Heap) (locs : List Loc) (ls : Array Slot), mm_R g A M H → va_S A s.heap H locs → lv_has ls 3 [] → W p l e rm_X7_source s m args below meth c H locs 0 0 (MQ below (mm_Ti g A r M) args s 0 0 A) (F0 m 40 ls [])) (hY : ∀ (v : Int32), e1 = .inr v → v = r) (n : Nat) (x2 : Int32), mm_it (mm_u1 (ff_X7_source_l2 M x0 x1)) n x2 = some e1 → ∀ (H : Heap) (locs : List Loc) (ls : Array Slot), mm_R g A M H → va_S A s.heap H locs → lv_has ls 3 [(0, .ref x0), (1, .int x1), (2, .int x2)] → W p l e rm_X7_source s m args below meth c H locs 0 0 (MQ below (mm_Ti g A r M) args s 0 0 A) (F0 m 2 ls []) := by
    intro x0 x1 e1 hX hY n x2 hit
    refine mm_itW (Hd := fun st => ∀ (H : Heap) (locs : List Loc) (ls : Array Slot), mm_R g A M H → va_S A s.heap H locs → lv_has ls 3 [(0, .ref x0), (1, .int x1), (2, .int st)] → W p l e rm_X7_source s m args below meth c H locs 0 0 (MQ below (mm_Ti g A r M) args s 0 0 A) (F0 m 2 ls [])) (fun st y hf hin hout => ?_) n x2 hit
    revert hf; generalize st = x2; intro hf
    have hf := mm_u1e hf
    have J34 : ∀ (x2 : Int32) (H : Heap) (locs : List Loc) (ls : Array Slot), mm_R g A M H → va_S A s.heap H locs → lv_has ls 3 [(0, .ref x0), (1, .int x1), (2, .int x2)] → ff_X7_source_j34 M x0 x1 x2 = some y → W p l e rm_X7_source s m args below meth c H locs 0 0 (MQ below (mm_Ti g A r M) args s 0 0 A) (F0 m 34 ls []) := by
      intro x2 H locs ls hR hS hl hf
      unfold ff_X7_source_j34 at hf
      refine lv_iinc (v := (x2 + (1 : Int32))) (lv' := [(2, .int (x2 + (1 : Int32))), (0, .ref x0), (1, .int x1)]) hx hb dX7_source_34 hl (k := 2) rfl rfl (by decide) rfl (fun ls hl => ?_)
      refine lv_goto (tgt := 2) hx hb dX7_source_37 (by decide) ?_
      exact hin _ (Option.some.inj hf).symm H locs ls hR hS (lv_sub hl [1, 2, 0] rfl)
    intro H locs ls hR hS hl
    unfold ff_X7_source_l2 at hf
    refine lv_iload_n hx hb dX7_source_2 rfl (lv_at hl 2 rfl) ?_
    refine lv_aload_n hx hb dX7_source_3 rfl (lv_at hl 0 rfl) ?_
    obtain ⟨v1, ev1, hf⟩ := mm_bd hf
    refine mm_getR C hR fs_X7_7 ev1 dX7_source_4 ?_
    refine lv_bipush (v := 6) hx hb dX7_source_7 (by decide) ?_
    obtain ⟨v2, ev2, hf⟩ := mm_bd hf
    refine mm_iald C hR ev2 dX7_source_9 ?_
    refine lv_icmp_ge (tgt := 40) hx hb dX7_source_10 (by decide) (fun hc => ?_) (fun hc => ?_)
    · have hf := mm_if1 hc hf
      exact hX _ (hout _ (Option.some.inj hf).symm).symm H locs ls hR hS (lv_sub hl [] rfl)
    · have hf := mm_if0 hc hf
      refine lv_aload_n hx hb dX7_source_13 rfl (lv_at hl 0 rfl) ?_
      refine lv_iload_n hx hb dX7_source_14 rfl (lv_at hl 2 rfl) ?_
      refine lv_iconst (v := 1) hx hb dX7_source_15 (by decide) ?_
      obtain ⟨u3, eu3, hf⟩ := mm_bd hf
      obtain ⟨v4, ev4, hf⟩ := mm_bd hf
      refine mm_callVi (As := [.int x2, .int (1 : Int32)]) (rest := []) C hR hS hl.1 vs_X7_85 eu3 (jj_X7_of l g A M x0 x2 (1 : Int32) v4 ev4) ⟨rfl, rfl, (Nat.le_of_ble_eq_true rfl), (Nat.le_of_ble_eq_true rfl)⟩ rfl (Nat.le_of_ble_eq_true rfl) ⟨Nat.zero_le _, Nat.zero_le _⟩ rfl dX7_source_16 (fun H locs hR hS => ?_)
      refine lv_iload_n hx hb dX7_source_19 rfl (lv_at hl 1 rfl) ?_
      refine lv_icmp_ne (tgt := 34) hx hb dX7_source_20 (by decide) (fun hc => ?_) (fun hc => ?_)
      · have hf := mm_if0 hc hf
        exact J34 x2 H locs ls hR hS (lv_sub hl [0, 1, 2] rfl) hf
      · have hf := mm_if1 hc hf
        refine lv_aload_n hx hb dX7_source_23 rfl (lv_at hl 0 rfl) ?_
        refine lv_iload_n hx hb dX7_source_24 rfl (lv_at hl 2 rfl) ?_
        refine lv_iconst (v := 1) hx hb dX7_source_25 (by decide) ?_
        obtain ⟨u5, eu5, hf⟩ := mm_bd hf
        obtain ⟨v6, ev6, hf⟩ := mm_bd hf
        refine mm_callVi (As := [.int x2, .int (1 : Int32)]) (rest := []) C hR hS hl.1 vs_X7_122 eu5 (jj_X7_still l g A M x0 x2 (1 : Int32) v6 ev6) ⟨rfl, rfl, (Nat.le_of_ble_eq_true rfl), (Nat.le_of_ble_eq_true rfl)⟩ rfl (Nat.le_of_ble_eq_true rfl) ⟨Nat.zero_le _, Nat.zero_le _⟩ rfl dX7_source_26 (fun H locs hR hS => ?_)
        refine lv_if_le (tgt := 34) hx hb dX7_source_29 (by decide) (fun hc => ?_) (fun hc => ?_)
        · have hf := mm_if1 hc hf
          exact J34 x2 H locs ls hR hS (lv_sub hl [0, 1, 2] rfl) hf
        · have hf := mm_if0 hc hf
          refine lv_iload_n hx hb dX7_source_32 rfl (lv_at hl 2 rfl) ?_
          exact mm_ire C hR hS hr ((hY _ (hout _ (Option.some.inj hf).symm).symm)) rfl dX7_source_33
  unfold ff_X7_source at hf
  refine lv_iconst (v := 0) hx hb dX7_source_0 (by decide) ?_
  refine lv_istore_n (lv' := [(2, .int (0 : Int32)), (0, .ref x0), (1, .int x1)]) hx hb dX7_source_1 rfl hl (by decide) rfl (fun ls hl => ?_)
  obtain ⟨e7, he7, hf⟩ := mm_bd hf
  refine L2 x0 x1 e7 (fun x2_8 he => ?_) (fun v he => by subst he; exact Option.some.inj (mm_sr hf)) _ (0 : Int32) he7 H locs ls hR hS (lv_sub hl [1, 2, 0] rfl)
  subst he
  intro H locs ls hR hS hl
  have hf := mm_sl hf
  have hf := mm_u1e hf
  refine lv_iconst (v := -1) hx hb dX7_source_40 (by decide) ?_
  exact mm_ire C hR hS hr ((Option.some.inj hf)) rfl dX7_source_41
def ff_X7_nearestTo_j79 (M : mm_M) (x0 : Nat) (x1 : Int32) (x2 : Int32) : Option (Int32 ⊕ (Int32 ⊕ Int32)) := some (.inl (x2 + (1 : Int32)))
def ff_X7_nearestTo_j45 (M : mm_M) (x0 : Nat) (x1 : Int32) (x2 : Int32) (x4 : Int32) : Option (Int32 ⊕ (Int32 ⊕ Int32)) := if (100 : Int32) ≤ x4 then (ff_X7_nearestTo_j79 M x0 x1 x2) else (Option.bind (mm_gR 7 M x0 0) fun v1 => Option.bind (mm_aI 0 M v1 ((308 : Int32) + x4)) fun v2 => if (0 : Int32) < v2 then (some (.inr (.inr x4))) else (Option.bind (mm_ck 7 M x0) fun u3 => Option.bind (ff_X7_source M x0 x4) fun v4 => if v4 = (-1 : Int32) then (ff_X7_nearestTo_j79 M x0 x1 x2) else (some (.inr (.inr x4)))))
def ff_X7_nearestTo_l2 (M : mm_M) (x0 : Nat) (x1 : Int32) (x2 : Int32) : Option (Int32 ⊕ (Int32 ⊕ Int32)) := if (100 : Int32) ≤ x2 then (some (.inr (.inl x2))) else (if (x1 - x2) < (0 : Int32) then (ff_X7_nearestTo_j45 M x0 x1 x2 (x1 + x2)) else (Option.bind (mm_gR 7 M x0 0) fun v5 => Option.bind (mm_aI 0 M v5 ((308 : Int32) + (x1 - x2))) fun v6 => if (0 : Int32) < v6 then (some (.inr (.inr (x1 - x2)))) else (Option.bind (mm_ck 7 M x0) fun u7 => Option.bind (ff_X7_source M x0 (x1 - x2)) fun v8 => if v8 = (-1 : Int32) then (ff_X7_nearestTo_j45 M x0 x1 x2 (x1 + x2)) else (some (.inr (.inr (x1 - x2)))))))
def ff_X7_nearestTo (M : mm_M) (x0 : Nat) (x1 : Int32) : Option Int32 := Option.bind (mm_it (mm_u1 (ff_X7_nearestTo_l2 M x0 x1)) mm_fu (0 : Int32)) fun e9 => Sum.elim (mm_u1 (fun x2_10 => some (-1 : Int32))) some e9
def rm_X7_nearestTo : Room := { frames := 4, cells := 0, slots := 0, locals := 93 }
set_option maxHeartbeats 4000000 in
set_option maxRecDepth 100000 in
theorem jj_X7_nearestTo (l : Launch) (g : mm_G) (A : Nat → Prop) (M : mm_M) (x0 : Nat) (x1 : Int32) (r : Int32) (hf : ff_X7_nearestTo M x0 x1 = some r) : Met l yX7_nearestTo (mm_ws yX7_nearestTo cX7_nearestTo 5 (Option.some Jvm.ClassFile.FieldType.int)) rm_X7_nearestTo (va_Pc [.ref x0, .int x1] (mm_B g A M)) (mm_Ti g A r M) 0 0 A := by
  refine mm_met (g := g) (lv := [(0, .ref x0), (1, .int x1)]) (fun U h => h.2) (by decide +kernel) (Nat.le_of_ble_eq_true rfl) rfl ?_
  intro p e s m args below meth c ls C hr hnm hB hl
  obtain ⟨hR, hK⟩ := hB
  have hx := C.1
  have hb := C.2.1
  suffices hmain : ∀ (H : Heap) (locs : List Loc), mm_R g A M H → va_S A s.heap H locs → W p l e rm_X7_nearestTo s m args below meth c H locs 0 0 (MQ below (mm_Ti g A r M) args s 0 0 A) (F0 m 0 ls []) from hmain _ _ hR va_S.rf
  clear hR
  intro H locs hR hS
  have L2 : ∀ (x0 : Nat) (x1 : Int32) (e1 : Int32 ⊕ Int32) (hX : ∀ (x2 : Int32), e1 = .inl x2 → ∀ (H : Heap) (locs : List Loc) (ls : Array Slot), mm_R g A M H → va_S A s.heap H locs → lv_has ls 5 [] → W p l e rm_X7_nearestTo s m args below meth c H locs 0 0 (MQ below (mm_Ti g A r M) args s 0 0 A) (F0 m 85 ls [])) (hY : ∀ (v : Int32), e1 = .inr v → v = r) (n : Nat) (x2 : Int32), mm_it (mm_u1 (ff_X7_nearestTo_l2 M x0 x1)) n x2 = some e1 → ∀ (H : Heap) (locs : List Loc) (ls : Array Slot), mm_R g A M H → va_S A s.heap H locs → lv_has ls 5 [(0, .ref x0), (1, .int x1), (2, .int x2)] → W p l e rm_X7_nearestTo s m args below meth c H locs 0 0 (MQ below (mm_Ti g A r M) args s 0 0 A) (F0 m 2 ls []) := by
    intro x0 x1 e1 hX hY n x2 hit
    refine mm_itW (Hd := fun st => ∀ (H : Heap) (locs : List Loc) (ls : Array Slot), mm_R g A M H → va_S A s.heap H locs → lv_has ls 5 [(0, .ref x0), (1, .int x1), (2, .int st)] → W p l e rm_X7_nearestTo s m args below meth c H locs 0 0 (MQ below (mm_Ti g A r M) args s 0 0 A) (F0 m 2 ls [])) (fun st y hf hin hout => ?_) n x2 hit
    revert hf; generalize st = x2; intro hf
    have hf := mm_u1e hf
    have J79 : ∀ (x2 : Int32) (H : Heap) (locs : List Loc) (ls : Array Slot), mm_R g A M H → va_S A s.heap H locs → lv_has ls 5 [(0, .ref x0), (1, .int x1), (2, .int x2)] → ff_X7_nearestTo_j79 M x0 x1 x2 = some y → W p l e rm_X7_nearestTo s m args below meth c H locs 0 0 (MQ below (mm_Ti g A r M) args s 0 0 A) (F0 m 79 ls []) := by
      intro x2 H locs ls hR hS hl hf
      unfold ff_X7_nearestTo_j79 at hf
      refine lv_iinc (v := (x2 + (1 : Int32))) (lv' := [(2, .int (x2 + (1 : Int32))), (0, .ref x0), (1, .int x1)]) hx hb dX7_nearestTo_79 hl (k := 2) rfl rfl (by decide) rfl (fun ls hl => ?_)
      refine lv_goto (tgt := 2) hx hb dX7_nearestTo_82 (by decide) ?_
      exact hin _ (Option.some.inj hf).symm H locs ls hR hS (lv_sub hl [1, 2, 0] rfl)
    have J45 : ∀ (x2 : Int32) (x4 : Int32) (H : Heap) (locs : List Loc) (ls : Array Slot), mm_R g A M H → va_S A s.heap H locs → lv_has ls 5 [(0, .ref x0), (1, .int x1), (2, .int x2), (4, .int x4)] → ff_X7_nearestTo_j45 M x0 x1 x2 x4 = some y → W p l e rm_X7_nearestTo s m args below meth c H locs 0 0 (MQ below (mm_Ti g A r M) args s 0 0 A) (F0 m 45 ls []) := by
      intro x2 x4 H locs ls hR hS hl hf
      unfold ff_X7_nearestTo_j45 at hf
      refine lv_iload hx hb dX7_nearestTo_45 (lv_at hl 3 rfl) ?_
      refine lv_bipush (v := 100) hx hb dX7_nearestTo_47 (by decide) ?_
      refine lv_icmp_ge (tgt := 79) hx hb dX7_nearestTo_49 (by decide) (fun hc => ?_) (fun hc => ?_)
      · have hf := mm_if1 hc hf
        exact J79 x2 H locs ls hR hS (lv_sub hl [0, 1, 2] rfl) hf
      · have hf := mm_if0 hc hf
        refine lv_aload_n hx hb dX7_nearestTo_52 rfl (lv_at hl 0 rfl) ?_
        obtain ⟨v1, ev1, hf⟩ := mm_bd hf
        refine mm_getR C hR fs_X7_7 ev1 dX7_nearestTo_53 ?_
        refine lv_sipush (v := 308) hx hb dX7_nearestTo_56 (by decide) ?_
        refine lv_iload hx hb dX7_nearestTo_59 (lv_at hl 3 rfl) ?_
        refine lv_iadd hx hb dX7_nearestTo_61 ?_
        obtain ⟨v2, ev2, hf⟩ := mm_bd hf
        refine mm_iald C hR ev2 dX7_nearestTo_62 ?_
        refine lv_if_gt (tgt := 76) hx hb dX7_nearestTo_63 (by decide) (fun hc => ?_) (fun hc => ?_)
        · have hf := mm_if1 hc hf
          refine lv_iload hx hb dX7_nearestTo_76 (lv_at hl 3 rfl) ?_
          exact mm_ire C hR hS hr ((hY _ (hout _ (Option.some.inj hf).symm).symm)) rfl dX7_nearestTo_78
        · have hf := mm_if0 hc hf
          refine lv_aload_n hx hb dX7_nearestTo_66 rfl (lv_at hl 0 rfl) ?_
          refine lv_iload hx hb dX7_nearestTo_67 (lv_at hl 3 rfl) ?_
          obtain ⟨u3, eu3, hf⟩ := mm_bd hf
          obtain ⟨v4, ev4, hf⟩ := mm_bd hf
          refine mm_callVi (As := [.int x4]) (rest := []) C hR hS hl.1 vs_X7_129 eu3 (jj_X7_source l g A M x0 x4 v4 ev4) ⟨rfl, rfl, (Nat.le_of_ble_eq_true rfl), (Nat.le_of_ble_eq_true rfl)⟩ rfl (Nat.le_of_ble_eq_true rfl) ⟨Nat.zero_le _, Nat.zero_le _⟩ rfl dX7_nearestTo_69 (fun H locs hR hS => ?_)
          refine lv_iconst (v := -1) hx hb dX7_nearestTo_72 (by decide) ?_
          refine lv_icmp_eq (tgt := 79) hx hb dX7_nearestTo_73 (by decide) (fun hc => ?_) (fun hc => ?_)
          · have hf := mm_if1 hc hf
            exact J79 x2 H locs ls hR hS (lv_sub hl [0, 1, 2] rfl) hf
          · have hf := mm_if0 hc hf
            refine lv_iload hx hb dX7_nearestTo_76 (lv_at hl 3 rfl) ?_
            exact mm_ire C hR hS hr ((hY _ (hout _ (Option.some.inj hf).symm).symm)) rfl dX7_nearestTo_78
    intro H locs ls hR hS hl
    unfold ff_X7_nearestTo_l2 at hf
    refine lv_iload_n hx hb dX7_nearestTo_2 rfl (lv_at hl 2 rfl) ?_
    refine lv_bipush (v := 100) hx hb dX7_nearestTo_3 (by decide) ?_
    refine lv_icmp_ge (tgt := 85) hx hb dX7_nearestTo_5 (by decide) (fun hc => ?_) (fun hc => ?_)
    · have hf := mm_if1 hc hf
      exact hX _ (hout _ (Option.some.inj hf).symm).symm H locs ls hR hS (lv_sub hl [] rfl)
    · have hf := mm_if0 hc hf
      refine lv_iload_n hx hb dX7_nearestTo_8 rfl (lv_at hl 1 rfl) ?_
      refine lv_iload_n hx hb dX7_nearestTo_9 rfl (lv_at hl 2 rfl) ?_
      refine lv_isub hx hb dX7_nearestTo_10 ?_
      refine lv_istore_n (lv' := [(3, .int (x1 - x2)), (0, .ref x0), (1, .int x1), (2, .int x2)]) hx hb dX7_nearestTo_11 rfl hl (by decide) rfl (fun ls hl => ?_)
      refine lv_iload_n hx hb dX7_nearestTo_12 rfl (lv_at hl 2 rfl) ?_
      refine lv_iload_n hx hb dX7_nearestTo_13 rfl (lv_at hl 3 rfl) ?_
      refine lv_iadd hx hb dX7_nearestTo_14 ?_
      refine lv_istore (lv' := [(4, .int (x1 + x2)), (3, .int (x1 - x2)), (0, .ref x0), (1, .int x1), (2, .int x2)]) hx hb dX7_nearestTo_15 hl (by decide) rfl (fun ls hl => ?_)
      refine lv_iload_n hx hb dX7_nearestTo_17 rfl (lv_at hl 1 rfl) ?_
      refine lv_if_lt (tgt := 45) hx hb dX7_nearestTo_18 (by decide) (fun hc => ?_) (fun hc => ?_)
      · have hf := mm_if1 hc hf
        exact J45 x2 (x1 + x2) H locs ls hR hS (lv_sub hl [2, 3, 4, 0] rfl) hf
      · have hf := mm_if0 hc hf
        refine lv_aload_n hx hb dX7_nearestTo_21 rfl (lv_at hl 2 rfl) ?_
        obtain ⟨v5, ev5, hf⟩ := mm_bd hf
        refine mm_getR C hR fs_X7_7 ev5 dX7_nearestTo_22 ?_
        refine lv_sipush (v := 308) hx hb dX7_nearestTo_25 (by decide) ?_
        refine lv_iload_n hx hb dX7_nearestTo_28 rfl (lv_at hl 1 rfl) ?_
        refine lv_iadd hx hb dX7_nearestTo_29 ?_
        obtain ⟨v6, ev6, hf⟩ := mm_bd hf
        refine mm_iald C hR ev6 dX7_nearestTo_30 ?_
        refine lv_if_gt (tgt := 43) hx hb dX7_nearestTo_31 (by decide) (fun hc => ?_) (fun hc => ?_)
        · have hf := mm_if1 hc hf
          refine lv_iload_n hx hb dX7_nearestTo_43 rfl (lv_at hl 1 rfl) ?_
          exact mm_ire C hR hS hr ((hY _ (hout _ (Option.some.inj hf).symm).symm)) rfl dX7_nearestTo_44
        · have hf := mm_if0 hc hf
          refine lv_aload_n hx hb dX7_nearestTo_34 rfl (lv_at hl 2 rfl) ?_
          refine lv_iload_n hx hb dX7_nearestTo_35 rfl (lv_at hl 1 rfl) ?_
          obtain ⟨u7, eu7, hf⟩ := mm_bd hf
          obtain ⟨v8, ev8, hf⟩ := mm_bd hf
          refine mm_callVi (As := [.int (x1 - x2)]) (rest := []) C hR hS hl.1 vs_X7_129 eu7 (jj_X7_source l g A M x0 (x1 - x2) v8 ev8) ⟨rfl, rfl, (Nat.le_of_ble_eq_true rfl), (Nat.le_of_ble_eq_true rfl)⟩ rfl (Nat.le_of_ble_eq_true rfl) ⟨Nat.zero_le _, Nat.zero_le _⟩ rfl dX7_nearestTo_36 (fun H locs hR hS => ?_)
          refine lv_iconst (v := -1) hx hb dX7_nearestTo_39 (by decide) ?_
          refine lv_icmp_eq (tgt := 45) hx hb dX7_nearestTo_40 (by decide) (fun hc => ?_) (fun hc => ?_)
          · have hf := mm_if1 hc hf
            exact J45 x2 (x1 + x2) H locs ls hR hS (lv_sub hl [2, 3, 4, 0] rfl) hf
          · have hf := mm_if0 hc hf
            refine lv_iload_n hx hb dX7_nearestTo_43 rfl (lv_at hl 1 rfl) ?_
            exact mm_ire C hR hS hr ((hY _ (hout _ (Option.some.inj hf).symm).symm)) rfl dX7_nearestTo_44
  unfold ff_X7_nearestTo at hf
  refine lv_iconst (v := 0) hx hb dX7_nearestTo_0 (by decide) ?_
  refine lv_istore_n (lv' := [(2, .int (0 : Int32)), (0, .ref x0), (1, .int x1)]) hx hb dX7_nearestTo_1 rfl hl (by decide) rfl (fun ls hl => ?_)
  obtain ⟨e9, he9, hf⟩ := mm_bd hf
  refine L2 x0 x1 e9 (fun x2_10 he => ?_) (fun v he => by subst he; exact Option.some.inj (mm_sr hf)) _ (0 : Int32) he9 H locs ls hR hS (lv_sub hl [1, 2, 0] rfl)
  subst he
  intro H locs ls hR hS hl
  have hf := mm_sl hf
  have hf := mm_u1e hf
  refine lv_iconst (v := -1) hx hb dX7_nearestTo_85 (by decide) ?_
  exact mm_ire C hR hS hr ((Option.some.inj hf)) rfl dX7_nearestTo_86
def ff_X7_lays_l56 (x0 : Nat) (x1 : Int32) (x2 : Int32) (x3 : Int32) (x4 : Int32) (M : mm_M) : Option ((Int32 × mm_M) ⊕ (Int32 × mm_M)) := if x4 = (0 : Int32) then (Option.bind (mm_ck 7 M x0) fun u9 => Option.bind (ff_X7_cuts M x0 x3) (mm_u2 fun v10 M11 => some (.inl (v10, M11)))) else (some (.inr (x4, M)))
def ff_X7_lays_j71 (M : mm_M) (x0 : Nat) (x1 : Int32) (x2 : Int32) : Option ((Int32 × mm_M)) := Option.bind (mm_gR 7 M x0 0) fun v15 => Option.bind (mm_sI 0 M v15 ((164 : Int32) + x1) x2) fun M16 => some (x2, M16)
def ff_X7_lays (M : mm_M) (x0 : Nat) (x1 : Int32) : Option ((Int32 × mm_M)) := Option.bind (mm_ck 7 M x0) fun u1 => Option.bind (ff_X7_wanted M x0 x1) fun v2 => Option.bind (mm_ck 7 M x0) fun u3 => Option.bind (ff_X7_nearestTo M x0 v2) fun v4 => if v4 = (-1 : Int32) then (some ((-1 : Int32), M)) else (Option.bind (mm_gR 7 M x0 0) fun v5 => Option.bind (mm_aI 0 M v5 ((308 : Int32) + v4)) fun v6 => if v6 ≤ (0 : Int32) then (Option.bind (mm_ck 7 M x0) fun u7 => Option.bind (ff_X7_source M x0 v4) fun v8 => Option.bind (mm_it (mm_u2 (ff_X7_lays_l56 x0 x1 v4 v8)) mm_fu ((0 : Int32), M)) fun e12 => mm_u2 (fun x4_13 M14 => ff_X7_lays_j71 M14 x0 x1 v4) e12) else (Option.bind (mm_gR 7 M x0 0) fun v17 => Option.bind (mm_aI 0 M v17 ((308 : Int32) + v4)) fun v18 => Option.bind (mm_sI 0 M v17 ((308 : Int32) + v4) (v18 - (1 : Int32))) fun M19 => ff_X7_lays_j71 M19 x0 x1 v4))
def rm_X7_lays : Room := { frames := 5, cells := 0, slots := 0, locals := 117 }
set_option maxHeartbeats 4000000 in
set_option maxRecDepth 100000 in
theorem jj_X7_lays (l : Launch) (g : mm_G) (A : Nat → Prop) (M : mm_M) (x0 : Nat) (x1 : Int32) (r : Int32) (M2 : mm_M) (hf : ff_X7_lays M x0 x1 = some (r, M2)) : Met l yX7_lays (mm_ws yX7_lays cX7_lays 5 (Option.some Jvm.ClassFile.FieldType.int)) rm_X7_lays (va_Pc [.ref x0, .int x1] (mm_B g A M)) (mm_Ti g A r M2) 0 0 A := by
  refine mm_met (g := g) (lv := [(0, .ref x0), (1, .int x1)]) (fun U h => h.2) (by decide +kernel) (Nat.le_of_ble_eq_true rfl) rfl ?_
  intro p e s m args below meth c ls C hr hnm hB hl
  obtain ⟨hR, hK⟩ := hB
  have hx := C.1
  have hb := C.2.1
  suffices hmain : ∀ (H : Heap) (locs : List Loc), mm_R g A M H → va_S A s.heap H locs → W p l e rm_X7_lays s m args below meth c H locs 0 0 (MQ below (mm_Ti g A r M2) args s 0 0 A) (F0 m 0 ls []) from hmain _ _ hR va_S.rf
  clear hR
  intro H locs hR hS
  have L56 : ∀ (x0 : Nat) (x1 : Int32) (x2 : Int32) (x3 : Int32) (e1 : Int32 × mm_M) (hX : ∀ (x4 : Int32) (M : mm_M), e1 = (x4, M) → ∀ (H : Heap) (locs : List Loc) (ls : Array Slot), mm_R g A M H → va_S A s.heap H locs → lv_has ls 5 [(0, .ref x0), (1, .int x1), (2, .int x2)] → W p l e rm_X7_lays s m args below meth c H locs 0 0 (MQ below (mm_Ti g A r M2) args s 0 0 A) (F0 m 71 ls [])) (n : Nat) (x4 : Int32) (M : mm_M), mm_it (mm_u2 (ff_X7_lays_l56 x0 x1 x2 x3)) n (x4, M) = some e1 → ∀ (H : Heap) (locs : List Loc) (ls : Array Slot), mm_R g A M H → va_S A s.heap H locs → lv_has ls 5 [(0, .ref x0), (1, .int x1), (2, .int x2), (3, .int x3), (4, .int x4)] → W p l e rm_X7_lays s m args below meth c H locs 0 0 (MQ below (mm_Ti g A r M2) args s 0 0 A) (F0 m 56 ls []) := by
    intro x0 x1 x2 x3 e1 hX n x4 M hit
    refine mm_itW (Hd := fun st => ∀ (H : Heap) (locs : List Loc) (ls : Array Slot), mm_R g A st.2 H → va_S A s.heap H locs → lv_has ls 5 [(0, .ref x0), (1, .int x1), (2, .int x2), (3, .int x3), (4, .int st.1)] → W p l e rm_X7_lays s m args below meth c H locs 0 0 (MQ below (mm_Ti g A r M2) args s 0 0 A) (F0 m 56 ls [])) (fun st y hf hin hout => ?_) n (x4, M) hit
    obtain ⟨x4, M⟩ := st
    have hf := mm_u2e hf
    intro H locs ls hR hS hl
    unfold ff_X7_lays_l56 at hf
    refine lv_iload hx hb dX7_lays_56 (lv_at hl 4 rfl) ?_
    refine lv_if_ne (tgt := 71) hx hb dX7_lays_58 (by decide) (fun hc => ?_) (fun hc => ?_)
    · have hf := mm_if0 hc hf
      exact hX _ _ (hout _ (Option.some.inj hf).symm).symm H locs ls hR hS (lv_sub hl [0, 1, 2] rfl)
    · have hf := mm_if1 hc hf
      refine lv_aload_n hx hb dX7_lays_61 rfl (lv_at hl 0 rfl) ?_
      refine lv_iload_n hx hb dX7_lays_62 rfl (lv_at hl 3 rfl) ?_
      obtain ⟨u9, eu9, hf⟩ := mm_bd hf
      obtain ⟨⟨v10, M11⟩, ev10, hf⟩ := mm_bd hf
      have hf := mm_u2e hf
      refine mm_callVi (As := [.int x3]) (rest := []) C hR hS hl.1 vs_X7_119 eu9 (jj_X7_cuts l g A M x0 x3 v10 M11 ev10) ⟨rfl, rfl, (Nat.le_of_ble_eq_true rfl), (Nat.le_of_ble_eq_true rfl)⟩ rfl (Nat.le_of_ble_eq_true rfl) ⟨Nat.zero_le _, Nat.zero_le _⟩ rfl dX7_lays_63 (fun H locs hR hS => ?_)
      refine lv_istore (lv' := [(4, .int v10), (0, .ref x0), (1, .int x1), (2, .int x2), (3, .int x3)]) hx hb dX7_lays_66 hl (by decide) rfl (fun ls hl => ?_)
      refine lv_goto (tgt := 56) hx hb dX7_lays_68 (by decide) ?_
      exact hin _ (Option.some.inj hf).symm H locs ls hR hS (lv_sub hl [1, 2, 3, 4, 0] rfl)
  have J71 : ∀ (M : mm_M) (x0 : Nat) (x1 : Int32) (x2 : Int32) (H : Heap) (locs : List Loc) (ls : Array Slot), mm_R g A M H → va_S A s.heap H locs → lv_has ls 5 [(0, .ref x0), (1, .int x1), (2, .int x2)] → ff_X7_lays_j71 M x0 x1 x2 = some (r, M2) → W p l e rm_X7_lays s m args below meth c H locs 0 0 (MQ below (mm_Ti g A r M2) args s 0 0 A) (F0 m 71 ls []) := by
    intro M x0 x1 x2 H locs ls hR hS hl hf
    unfold ff_X7_lays_j71 at hf
    refine lv_aload_n hx hb dX7_lays_71 rfl (lv_at hl 0 rfl) ?_
    obtain ⟨v15, ev15, hf⟩ := mm_bd hf
    refine mm_getR C hR fs_X7_7 ev15 dX7_lays_72 ?_
    refine lv_sipush (v := 164) hx hb dX7_lays_75 (by decide) ?_
    refine lv_iload_n hx hb dX7_lays_78 rfl (lv_at hl 1 rfl) ?_
    refine lv_iadd hx hb dX7_lays_79 ?_
    refine lv_iload_n hx hb dX7_lays_80 rfl (lv_at hl 2 rfl) ?_
    obtain ⟨M16, eM16, hf⟩ := mm_bd hf
    refine mm_iast C hR hS eM16 dX7_lays_81 (fun H locs hR hS => ?_)
    refine lv_iload_n hx hb dX7_lays_82 rfl (lv_at hl 2 rfl) ?_
    exact mm_ire C hR hS hr ((mm_pe hf).1) (mm_pe hf).2 dX7_lays_83
  unfold ff_X7_lays at hf
  refine lv_aload_n hx hb dX7_lays_0 rfl (lv_at hl 0 rfl) ?_
  refine lv_aload_n hx hb dX7_lays_1 rfl (lv_at hl 0 rfl) ?_
  refine lv_iload_n hx hb dX7_lays_2 rfl (lv_at hl 1 rfl) ?_
  obtain ⟨u1, eu1, hf⟩ := mm_bd hf
  obtain ⟨v2, ev2, hf⟩ := mm_bd hf
  refine mm_callVi (As := [.int x1]) (rest := [.ref x0]) C hR hS hl.1 vs_X7_72 eu1 (jj_X7_wanted l g A M x0 x1 v2 ev2) ⟨rfl, rfl, (Nat.le_of_ble_eq_true rfl), (Nat.le_of_ble_eq_true rfl)⟩ rfl (Nat.le_of_ble_eq_true rfl) ⟨Nat.zero_le _, Nat.zero_le _⟩ rfl dX7_lays_3 (fun H locs hR hS => ?_)
  obtain ⟨u3, eu3, hf⟩ := mm_bd hf
  obtain ⟨v4, ev4, hf⟩ := mm_bd hf
  refine mm_callVi (As := [.int v2]) (rest := []) C hR hS hl.1 vs_X7_132 eu3 (jj_X7_nearestTo l g A M x0 v2 v4 ev4) ⟨rfl, rfl, (Nat.le_of_ble_eq_true rfl), (Nat.le_of_ble_eq_true rfl)⟩ rfl (Nat.le_of_ble_eq_true rfl) ⟨Nat.zero_le _, Nat.zero_le _⟩ rfl dX7_lays_6 (fun H locs hR hS => ?_)
  refine lv_istore_n (lv' := [(2, .int v4), (0, .ref x0), (1, .int x1)]) hx hb dX7_lays_9 rfl hl (by decide) rfl (fun ls hl => ?_)
  refine lv_iload_n hx hb dX7_lays_10 rfl (lv_at hl 0 rfl) ?_
  refine lv_iconst (v := -1) hx hb dX7_lays_11 (by decide) ?_
  refine lv_icmp_ne (tgt := 17) hx hb dX7_lays_12 (by decide) (fun hc => ?_) (fun hc => ?_)
  · have hf := mm_if0 hc hf
    refine lv_aload_n hx hb dX7_lays_17 rfl (lv_at hl 1 rfl) ?_
    obtain ⟨v5, ev5, hf⟩ := mm_bd hf
    refine mm_getR C hR fs_X7_7 ev5 dX7_lays_18 ?_
    refine lv_sipush (v := 308) hx hb dX7_lays_21 (by decide) ?_
    refine lv_iload_n hx hb dX7_lays_24 rfl (lv_at hl 0 rfl) ?_
    refine lv_iadd hx hb dX7_lays_25 ?_
    obtain ⟨v6, ev6, hf⟩ := mm_bd hf
    refine mm_iald C hR ev6 dX7_lays_26 ?_
    refine lv_if_le (tgt := 47) hx hb dX7_lays_27 (by decide) (fun hc => ?_) (fun hc => ?_)
    · have hf := mm_if1 hc hf
      refine lv_aload_n hx hb dX7_lays_47 rfl (lv_at hl 1 rfl) ?_
      refine lv_iload_n hx hb dX7_lays_48 rfl (lv_at hl 0 rfl) ?_
      obtain ⟨u7, eu7, hf⟩ := mm_bd hf
      obtain ⟨v8, ev8, hf⟩ := mm_bd hf
      refine mm_callVi (As := [.int v4]) (rest := []) C hR hS hl.1 vs_X7_129 eu7 (jj_X7_source l g A M x0 v4 v8 ev8) ⟨rfl, rfl, (Nat.le_of_ble_eq_true rfl), (Nat.le_of_ble_eq_true rfl)⟩ rfl (Nat.le_of_ble_eq_true rfl) ⟨Nat.zero_le _, Nat.zero_le _⟩ rfl dX7_lays_49 (fun H locs hR hS => ?_)
      refine lv_istore_n (lv' := [(3, .int v8), (2, .int v4), (0, .ref x0), (1, .int x1)]) hx hb dX7_lays_52 rfl hl (by decide) rfl (fun ls hl => ?_)
      refine lv_iconst (v := 0) hx hb dX7_lays_53 (by decide) ?_
      refine lv_istore (lv' := [(4, .int (0 : Int32)), (3, .int v8), (2, .int v4), (0, .ref x0), (1, .int x1)]) hx hb dX7_lays_54 hl (by decide) rfl (fun ls hl => ?_)
      obtain ⟨e12, he12, hf⟩ := mm_bd hf
      refine L56 x0 x1 v4 v8 e12 (fun x4_13 M14 he => ?_) _ (0 : Int32) M he12 H locs ls hR hS (lv_sub hl [3, 4, 2, 1, 0] rfl)
      subst he
      intro H locs ls hR hS hl
      have hf := mm_u2e hf
      exact J71 M14 x0 x1 v4 H locs ls hR hS (lv_sub hl [0, 1, 2] rfl) hf
    · have hf := mm_if0 hc hf
      refine lv_aload_n hx hb dX7_lays_30 rfl (lv_at hl 1 rfl) ?_
      obtain ⟨v17, ev17, hf⟩ := mm_bd hf
      refine mm_getR C hR fs_X7_7 ev17 dX7_lays_31 ?_
      refine lv_sipush (v := 308) hx hb dX7_lays_34 (by decide) ?_
      refine lv_iload_n hx hb dX7_lays_37 rfl (lv_at hl 0 rfl) ?_
      refine lv_iadd hx hb dX7_lays_38 ?_
      refine lv_dup2_11 hx hb dX7_lays_39 rfl rfl ?_
      obtain ⟨v18, ev18, hf⟩ := mm_bd hf
      refine mm_iald C hR ev18 dX7_lays_40 ?_
      refine lv_iconst (v := 1) hx hb dX7_lays_41 (by decide) ?_
      refine lv_isub hx hb dX7_lays_42 ?_
      obtain ⟨M19, eM19, hf⟩ := mm_bd hf
      refine mm_iast C hR hS eM19 dX7_lays_43 (fun H locs hR hS => ?_)
      refine lv_goto (tgt := 71) hx hb dX7_lays_44 (by decide) ?_
      exact J71 M19 x0 x1 v4 H locs ls hR hS (lv_sub hl [1, 2, 0] rfl) hf
  · have hf := mm_if1 hc hf
    refine lv_iconst (v := -1) hx hb dX7_lays_15 (by decide) ?_
    exact mm_ire C hR hS hr ((mm_pe hf).1) (mm_pe hf).2 dX7_lays_16
def ff_X7_lay (M : mm_M) (x0 : Nat) (x1 : Int32) (x2 : Int32) : Option ((Int32 × mm_M)) := Option.bind (mm_ck 7 M x0) fun u1 => Option.bind (ff_X7_isCell M x0 x1 x2) fun v2 => if v2 = (0 : Int32) then (some ((-1 : Int32), M)) else (Option.bind (mm_gR 7 M x0 0) fun v3 => Option.bind (mm_aI 0 M v3 (0 : Int32)) fun v4 => Option.bind (mm_gR 7 M x0 0) fun v5 => Option.bind (mm_aI 0 M v5 ((164 : Int32) + (x1 + (x2 * v4)))) fun v6 => if v6 = (-1 : Int32) then (Option.bind (mm_ck 7 M x0) fun u7 => Option.bind (ff_X7_wanted M x0 (x1 + (x2 * v4))) fun v8 => Option.bind (mm_ck 7 M x0) fun u9 => Option.bind (ff_X7_nearestTo M x0 v8) fun v10 => if v10 = (-1 : Int32) then (some ((-2 : Int32), M)) else (Option.bind (mm_ck 7 M x0) fun u11 => Option.bind (ff_X7_keep M x0) fun M12 => Option.bind (mm_ck 7 M12 x0) fun u13 => Option.bind (ff_X7_lays M12 x0 (x1 + (x2 * v4))) (mm_u2 fun v14 M15 => some (v14, M15)))) else (some ((-2 : Int32), M)))
def rm_X7_lay : Room := { frames := 6, cells := 0, slots := 0, locals := 141 }
set_option maxHeartbeats 4000000 in
set_option maxRecDepth 100000 in
theorem jj_X7_lay (l : Launch) (g : mm_G) (A : Nat → Prop) (M : mm_M) (x0 : Nat) (x1 : Int32) (x2 : Int32) (r : Int32) (M2 : mm_M) (hf : ff_X7_lay M x0 x1 x2 = some (r, M2)) : Met l yX7_lay (mm_ws yX7_lay cX7_lay 4 (Option.some Jvm.ClassFile.FieldType.int)) rm_X7_lay (va_Pc [.ref x0, .int x1, .int x2] (mm_B g A M)) (mm_Ti g A r M2) 0 0 A := by
  refine mm_met (g := g) (lv := [(0, .ref x0), (1, .int x1), (2, .int x2)]) (fun U h => h.2) (by decide +kernel) (Nat.le_of_ble_eq_true rfl) rfl ?_
  intro p e s m args below meth c ls C hr hnm hB hl
  obtain ⟨hR, hK⟩ := hB
  have hx := C.1
  have hb := C.2.1
  suffices hmain : ∀ (H : Heap) (locs : List Loc), mm_R g A M H → va_S A s.heap H locs → W p l e rm_X7_lay s m args below meth c H locs 0 0 (MQ below (mm_Ti g A r M2) args s 0 0 A) (F0 m 0 ls []) from hmain _ _ hR va_S.rf
  clear hR
  intro H locs hR hS
  unfold ff_X7_lay at hf
  refine lv_aload_n hx hb dX7_lay_0 rfl (lv_at hl 0 rfl) ?_
  refine lv_iload_n hx hb dX7_lay_1 rfl (lv_at hl 1 rfl) ?_
  refine lv_iload_n hx hb dX7_lay_2 rfl (lv_at hl 2 rfl) ?_
  obtain ⟨u1, eu1, hf⟩ := mm_bd hf
  obtain ⟨v2, ev2, hf⟩ := mm_bd hf
  refine mm_callVi (As := [.int x1, .int x2]) (rest := []) C hR hS hl.1 vs_X7_68 eu1 (jj_X7_isCell l g A M x0 x1 x2 v2 ev2) ⟨rfl, rfl, (Nat.le_of_ble_eq_true rfl), (Nat.le_of_ble_eq_true rfl)⟩ rfl (Nat.le_of_ble_eq_true rfl) ⟨Nat.zero_le _, Nat.zero_le _⟩ rfl dX7_lay_3 (fun H locs hR hS => ?_)
  refine lv_if_ne (tgt := 11) hx hb dX7_lay_6 (by decide) (fun hc => ?_) (fun hc => ?_)
  · have hf := mm_if0 hc hf
    refine lv_iload_n hx hb dX7_lay_11 rfl (lv_at hl 1 rfl) ?_
    refine lv_iload_n hx hb dX7_lay_12 rfl (lv_at hl 2 rfl) ?_
    refine lv_aload_n hx hb dX7_lay_13 rfl (lv_at hl 0 rfl) ?_
    obtain ⟨v3, ev3, hf⟩ := mm_bd hf
    refine mm_getR C hR fs_X7_7 ev3 dX7_lay_14 ?_
    refine lv_iconst (v := 0) hx hb dX7_lay_17 (by decide) ?_
    obtain ⟨v4, ev4, hf⟩ := mm_bd hf
    refine mm_iald C hR ev4 dX7_lay_18 ?_
    refine lv_imul hx hb dX7_lay_19 ?_
    refine lv_iadd hx hb dX7_lay_20 ?_
    refine lv_istore_n (lv' := [(3, .int (x1 + (x2 * v4))), (0, .ref x0), (1, .int x1), (2, .int x2)]) hx hb dX7_lay_21 rfl hl (by decide) rfl (fun ls hl => ?_)
    refine lv_aload_n hx hb dX7_lay_22 rfl (lv_at hl 1 rfl) ?_
    obtain ⟨v5, ev5, hf⟩ := mm_bd hf
    refine mm_getR C hR fs_X7_7 ev5 dX7_lay_23 ?_
    refine lv_sipush (v := 164) hx hb dX7_lay_26 (by decide) ?_
    refine lv_iload_n hx hb dX7_lay_29 rfl (lv_at hl 0 rfl) ?_
    refine lv_iadd hx hb dX7_lay_30 ?_
    obtain ⟨v6, ev6, hf⟩ := mm_bd hf
    refine mm_iald C hR ev6 dX7_lay_31 ?_
    refine lv_iconst (v := -1) hx hb dX7_lay_32 (by decide) ?_
    refine lv_icmp_ne (tgt := 49) hx hb dX7_lay_33 (by decide) (fun hc => ?_) (fun hc => ?_)
    · have hf := mm_if0 hc hf
      refine lv_bipush (v := -2) hx hb dX7_lay_49 (by decide) ?_
      exact mm_ire C hR hS hr ((mm_pe hf).1) (mm_pe hf).2 dX7_lay_51
    · have hf := mm_if1 hc hf
      refine lv_aload_n hx hb dX7_lay_36 rfl (lv_at hl 1 rfl) ?_
      refine lv_aload_n hx hb dX7_lay_37 rfl (lv_at hl 1 rfl) ?_
      refine lv_iload_n hx hb dX7_lay_38 rfl (lv_at hl 0 rfl) ?_
      obtain ⟨u7, eu7, hf⟩ := mm_bd hf
      obtain ⟨v8, ev8, hf⟩ := mm_bd hf
      refine mm_callVi (As := [.int (x1 + (x2 * v4))]) (rest := [.ref x0]) C hR hS hl.1 vs_X7_72 eu7 (jj_X7_wanted l g A M x0 (x1 + (x2 * v4)) v8 ev8) ⟨rfl, rfl, (Nat.le_of_ble_eq_true rfl), (Nat.le_of_ble_eq_true rfl)⟩ rfl (Nat.le_of_ble_eq_true rfl) ⟨Nat.zero_le _, Nat.zero_le _⟩ rfl dX7_lay_39 (fun H locs hR hS => ?_)
      obtain ⟨u9, eu9, hf⟩ := mm_bd hf
      obtain ⟨v10, ev10, hf⟩ := mm_bd hf
      refine mm_callVi (As := [.int v8]) (rest := []) C hR hS hl.1 vs_X7_132 eu9 (jj_X7_nearestTo l g A M x0 v8 v10 ev10) ⟨rfl, rfl, (Nat.le_of_ble_eq_true rfl), (Nat.le_of_ble_eq_true rfl)⟩ rfl (Nat.le_of_ble_eq_true rfl) ⟨Nat.zero_le _, Nat.zero_le _⟩ rfl dX7_lay_42 (fun H locs hR hS => ?_)
      refine lv_iconst (v := -1) hx hb dX7_lay_45 (by decide) ?_
      refine lv_icmp_ne (tgt := 52) hx hb dX7_lay_46 (by decide) (fun hc => ?_) (fun hc => ?_)
      · have hf := mm_if0 hc hf
        refine lv_aload_n hx hb dX7_lay_52 rfl (lv_at hl 1 rfl) ?_
        obtain ⟨u11, eu11, hf⟩ := mm_bd hf
        obtain ⟨M12, eM12, hf⟩ := mm_bd hf
        refine mm_callVv (As := []) (rest := []) C hR hS hl.1 vs_X7_62 eu11 (jj_X7_keep l g A M x0 M12 eM12) ⟨rfl, rfl, (Nat.le_of_ble_eq_true rfl), (Nat.le_of_ble_eq_true rfl)⟩ rfl (Nat.le_of_ble_eq_true rfl) ⟨Nat.zero_le _, Nat.zero_le _⟩ rfl dX7_lay_53 (fun H locs hR hS => ?_)
        refine lv_aload_n hx hb dX7_lay_56 rfl (lv_at hl 1 rfl) ?_
        refine lv_iload_n hx hb dX7_lay_57 rfl (lv_at hl 0 rfl) ?_
        obtain ⟨u13, eu13, hf⟩ := mm_bd hf
        obtain ⟨⟨v14, M15⟩, ev14, hf⟩ := mm_bd hf
        have hf := mm_u2e hf
        refine mm_callVi (As := [.int (x1 + (x2 * v4))]) (rest := []) C hR hS hl.1 vs_X7_135 eu13 (jj_X7_lays l g A M12 x0 (x1 + (x2 * v4)) v14 M15 ev14) ⟨rfl, rfl, (Nat.le_of_ble_eq_true rfl), (Nat.le_of_ble_eq_true rfl)⟩ rfl (Nat.le_of_ble_eq_true rfl) ⟨Nat.zero_le _, Nat.zero_le _⟩ rfl dX7_lay_58 (fun H locs hR hS => ?_)
        exact mm_ire C hR hS hr ((mm_pe hf).1) (mm_pe hf).2 dX7_lay_61
      · have hf := mm_if1 hc hf
        refine lv_bipush (v := -2) hx hb dX7_lay_49 (by decide) ?_
        exact mm_ire C hR hS hr ((mm_pe hf).1) (mm_pe hf).2 dX7_lay_51
  · have hf := mm_if1 hc hf
    refine lv_iconst (v := -1) hx hb dX7_lay_9 (by decide) ?_
    exact mm_ire C hR hS hr ((mm_pe hf).1) (mm_pe hf).2 dX7_lay_10
def ff_X7_laysIfEmpty (M : mm_M) (x0 : Nat) (x1 : Int32) : Option ((Int32 × mm_M)) := Option.bind (mm_gR 7 M x0 0) fun v1 => Option.bind (mm_aI 0 M v1 ((164 : Int32) + x1)) fun v2 => if v2 = (-1 : Int32) then (Option.bind (mm_ck 7 M x0) fun u3 => Option.bind (ff_X7_lays M x0 x1) (mm_u2 fun v4 M5 => if v4 = (-1 : Int32) then (some ((0 : Int32), M5)) else (some ((1 : Int32), M5)))) else (some ((0 : Int32), M))
def rm_X7_laysIfEmpty : Room := { frames := 6, cells := 0, slots := 0, locals := 141 }
set_option maxHeartbeats 4000000 in
set_option maxRecDepth 100000 in
theorem jj_X7_laysIfEmpty (l : Launch) (g : mm_G) (A : Nat → Prop) (M : mm_M) (x0 : Nat) (x1 : Int32) (r : Int32) (M2 : mm_M) (hf : ff_X7_laysIfEmpty M x0 x1 = some (r, M2)) : Met l yX7_laysIfEmpty (mm_ws yX7_laysIfEmpty cX7_laysIfEmpty 2 (Option.some Jvm.ClassFile.FieldType.int)) rm_X7_laysIfEmpty (va_Pc [.ref x0, .int x1] (mm_B g A M)) (mm_Ti g A r M2) 0 0 A := by
  refine mm_met (g := g) (lv := [(0, .ref x0), (1, .int x1)]) (fun U h => h.2) (by decide +kernel) (Nat.le_of_ble_eq_true rfl) rfl ?_
  intro p e s m args below meth c ls C hr hnm hB hl
  obtain ⟨hR, hK⟩ := hB
  have hx := C.1
  have hb := C.2.1
  suffices hmain : ∀ (H : Heap) (locs : List Loc), mm_R g A M H → va_S A s.heap H locs → W p l e rm_X7_laysIfEmpty s m args below meth c H locs 0 0 (MQ below (mm_Ti g A r M2) args s 0 0 A) (F0 m 0 ls []) from hmain _ _ hR va_S.rf
  clear hR
  intro H locs hR hS
  unfold ff_X7_laysIfEmpty at hf
  refine lv_aload_n hx hb dX7_laysIfEmpty_0 rfl (lv_at hl 0 rfl) ?_
  obtain ⟨v1, ev1, hf⟩ := mm_bd hf
  refine mm_getR C hR fs_X7_7 ev1 dX7_laysIfEmpty_1 ?_
  refine lv_sipush (v := 164) hx hb dX7_laysIfEmpty_4 (by decide) ?_
  refine lv_iload_n hx hb dX7_laysIfEmpty_7 rfl (lv_at hl 1 rfl) ?_
  refine lv_iadd hx hb dX7_laysIfEmpty_8 ?_
  obtain ⟨v2, ev2, hf⟩ := mm_bd hf
  refine mm_iald C hR ev2 dX7_laysIfEmpty_9 ?_
  refine lv_iconst (v := -1) hx hb dX7_laysIfEmpty_10 (by decide) ?_
  refine lv_icmp_ne (tgt := 27) hx hb dX7_laysIfEmpty_11 (by decide) (fun hc => ?_) (fun hc => ?_)
  · have hf := mm_if0 hc hf
    refine lv_iconst (v := 0) hx hb dX7_laysIfEmpty_27 (by decide) ?_
    exact mm_ire C hR hS hr ((mm_pe hf).1) (mm_pe hf).2 dX7_laysIfEmpty_28
  · have hf := mm_if1 hc hf
    refine lv_aload_n hx hb dX7_laysIfEmpty_14 rfl (lv_at hl 0 rfl) ?_
    refine lv_iload_n hx hb dX7_laysIfEmpty_15 rfl (lv_at hl 1 rfl) ?_
    obtain ⟨u3, eu3, hf⟩ := mm_bd hf
    obtain ⟨⟨v4, M5⟩, ev4, hf⟩ := mm_bd hf
    have hf := mm_u2e hf
    refine mm_callVi (As := [.int x1]) (rest := []) C hR hS hl.1 vs_X7_135 eu3 (jj_X7_lays l g A M x0 x1 v4 M5 ev4) ⟨rfl, rfl, (Nat.le_of_ble_eq_true rfl), (Nat.le_of_ble_eq_true rfl)⟩ rfl (Nat.le_of_ble_eq_true rfl) ⟨Nat.zero_le _, Nat.zero_le _⟩ rfl dX7_laysIfEmpty_16 (fun H locs hR hS => ?_)
    refine lv_iconst (v := -1) hx hb dX7_laysIfEmpty_19 (by decide) ?_
    refine lv_icmp_eq (tgt := 27) hx hb dX7_laysIfEmpty_20 (by decide) (fun hc => ?_) (fun hc => ?_)
    · have hf := mm_if1 hc hf
      refine lv_iconst (v := 0) hx hb dX7_laysIfEmpty_27 (by decide) ?_
      exact mm_ire C hR hS hr ((mm_pe hf).1) (mm_pe hf).2 dX7_laysIfEmpty_28
    · have hf := mm_if0 hc hf
      refine lv_iconst (v := 1) hx hb dX7_laysIfEmpty_23 (by decide) ?_
      refine lv_goto (tgt := 28) hx hb dX7_laysIfEmpty_24 (by decide) ?_
      exact mm_ire C hR hS hr ((mm_pe hf).1) (mm_pe hf).2 dX7_laysIfEmpty_28
def ff_X7_laysAll_j128 (M : mm_M) (x0 : Nat) (x1 : Int32) (x2 : Int32) (x3 : Int32) (x4 : Int32) (x5 : Int32) (y0 : Int32) : Option ((Int32 × Int32 × mm_M) ⊕ (Int32 × Int32 × mm_M)) := Option.bind (mm_gR 7 M x0 0) fun v7 => Option.bind (mm_aI 0 M v7 (0 : Int32)) fun v8 => Option.bind (mm_ck 7 M x0) fun u9 => Option.bind (ff_X7_laysIfEmpty M x0 (x5 + (y0 * v8))) (mm_u2 fun v10 M11 => some (.inl ((x1 + v10), (x4 + (1 : Int32)), M11)))
def ff_X7_laysAll_j77 (M : mm_M) (x0 : Nat) (x1 : Int32) (x2 : Int32) (x3 : Int32) (x4 : Int32) (y0 : Int32) : Option ((Int32 × Int32 × mm_M) ⊕ (Int32 × Int32 × mm_M)) := if x2 ≤ x4 then (if (x2 + x3) ≤ x4 then (if (((2 : Int32) * x2) + x3) ≤ x4 then (ff_X7_laysAll_j128 M x0 x1 x2 x3 x4 y0 ((((2 : Int32) * x2) + ((2 : Int32) * x3)) - x4)) else (ff_X7_laysAll_j128 M x0 x1 x2 x3 x4 y0 x3)) else (ff_X7_laysAll_j128 M x0 x1 x2 x3 x4 y0 (x4 - x2))) else (ff_X7_laysAll_j128 M x0 x1 x2 x3 x4 y0 (0 : Int32))
def ff_X7_laysAll_l23 (x0 : Nat) (x2 : Int32) (x3 : Int32) (x1 : Int32) (x4 : Int32) (M : mm_M) : Option ((Int32 × Int32 × mm_M) ⊕ (Int32 × Int32 × mm_M)) := Option.bind (mm_ck 7 M x0) fun u5 => Option.bind (ff_X7_around M x0) fun v6 => if v6 ≤ x4 then (some (.inr (x1, x4, M))) else (if x2 ≤ x4 then (if (x2 + x3) ≤ x4 then (if (((2 : Int32) * x2) + x3) ≤ x4 then (ff_X7_laysAll_j77 M x0 x1 x2 x3 x4 (0 : Int32)) else (ff_X7_laysAll_j77 M x0 x1 x2 x3 x4 ((((2 : Int32) * x2) + x3) - x4))) else (ff_X7_laysAll_j77 M x0 x1 x2 x3 x4 x2)) else (ff_X7_laysAll_j77 M x0 x1 x2 x3 x4 x4))
def ff_X7_laysAll_l158 (x0 : Nat) (x1 : Int32) (x4 : Int32) (M : mm_M) : Option ((Int32 × Int32 × mm_M) ⊕ (Int32 × Int32 × mm_M)) := Option.bind (mm_ck 7 M x0) fun u16 => Option.bind (ff_X7_cells M x0) fun v17 => if v17 ≤ x4 then (some (.inr (x1, x4, M))) else (Option.bind (mm_ck 7 M x0) fun u18 => Option.bind (ff_X7_laysIfEmpty M x0 x4) (mm_u2 fun v19 M20 => some (.inl ((x1 + v19), (x4 + (1 : Int32)), M20))))
def ff_X7_laysAll (M : mm_M) (x0 : Nat) : Option ((Int32 × mm_M)) := Option.bind (mm_gR 7 M x0 0) fun v1 => Option.bind (mm_aI 0 M v1 (0 : Int32)) fun v2 => Option.bind (mm_gR 7 M x0 0) fun v3 => Option.bind (mm_aI 0 M v3 (1 : Int32)) fun v4 => Option.bind (mm_it (mm_u3 (ff_X7_laysAll_l23 x0 (v2 - (1 : Int32)) (v4 - (1 : Int32)))) mm_fu ((0 : Int32), (0 : Int32), M)) fun e12 => mm_u3 (fun x1_13 x4_14 M15 => Option.bind (mm_it (mm_u3 (ff_X7_laysAll_l158 x0)) mm_fu (x1_13, (0 : Int32), M15)) fun e21 => mm_u3 (fun x1_22 x4_23 M24 => some (x1_22, M24)) e21) e12
def rm_X7_laysAll : Room := { frames := 7, cells := 0, slots := 0, locals := 162 }
set_option maxHeartbeats 4000000 in
set_option maxRecDepth 100000 in
theorem jj_X7_laysAll (l : Launch) (g : mm_G) (A : Nat → Prop) (M : mm_M) (x0 : Nat) (r : Int32) (M2 : mm_M) (hf : ff_X7_laysAll M x0 = some (r, M2)) : Met l yX7_laysAll (mm_ws yX7_laysAll cX7_laysAll 7 (Option.some Jvm.ClassFile.FieldType.int)) rm_X7_laysAll (va_Pc [.ref x0] (mm_B g A M)) (mm_Ti g A r M2) 0 0 A := by
  refine mm_met (g := g) (lv := [(0, .ref x0)]) (fun U h => h.2) (by decide +kernel) (Nat.le_of_ble_eq_true rfl) rfl ?_
  intro p e s m args below meth c ls C hr hnm hB hl
  obtain ⟨hR, hK⟩ := hB
  have hx := C.1
  have hb := C.2.1
  suffices hmain : ∀ (H : Heap) (locs : List Loc), mm_R g A M H → va_S A s.heap H locs → W p l e rm_X7_laysAll s m args below meth c H locs 0 0 (MQ below (mm_Ti g A r M2) args s 0 0 A) (F0 m 0 ls []) from hmain _ _ hR va_S.rf
  clear hR
  intro H locs hR hS
  have L23 : ∀ (x0 : Nat) (x2 : Int32) (x3 : Int32) (e1 : Int32 × Int32 × mm_M) (hX : ∀ (x1 : Int32) (x4 : Int32) (M : mm_M), e1 = (x1, x4, M) → ∀ (H : Heap) (locs : List Loc) (ls : Array Slot), mm_R g A M H → va_S A s.heap H locs → lv_has ls 7 [(0, .ref x0), (1, .int x1)] → W p l e rm_X7_laysAll s m args below meth c H locs 0 0 (MQ below (mm_Ti g A r M2) args s 0 0 A) (F0 m 155 ls [])) (n : Nat) (x1 : Int32) (x4 : Int32) (M : mm_M), mm_it (mm_u3 (ff_X7_laysAll_l23 x0 x2 x3)) n (x1, x4, M) = some e1 → ∀ (H : Heap) (locs : List Loc) (ls : Array Slot), mm_R g A M H → va_S A s.heap H locs → lv_has ls 7 [(0, .ref x0), (1, .int x1), (2, .int x2), (3, .int x3), (4, .int x4)] → W p l e rm_X7_laysAll s m args below meth c H locs 0 0 (MQ below (mm_Ti g A r M2) args s 0 0 A) (F0 m 23 ls []) := by
    intro x0 x2 x3 e1 hX n x1 x4 M hit
    refine mm_itW (Hd := fun st => ∀ (H : Heap) (locs : List Loc) (ls : Array Slot), mm_R g A st.2.2 H → va_S A s.heap H locs → lv_has ls 7 [(0, .ref x0), (1, .int st.1), (2, .int x2), (3, .int x3), (4, .int st.2.1)] → W p l e rm_X7_laysAll s m args below meth c H locs 0 0 (MQ below (mm_Ti g A r M2) args s 0 0 A) (F0 m 23 ls [])) (fun st y hf hin hout => ?_) n (x1, x4, M) hit
    obtain ⟨x1, x4, M⟩ := st
    have hf := mm_u3e hf
    have J128 : ∀ (M : mm_M) (x1 : Int32) (x4 : Int32) (x5 : Int32) (y0 : Int32) (H : Heap) (locs : List Loc) (ls : Array Slot), mm_R g A M H → va_S A s.heap H locs → lv_has ls 7 [(0, .ref x0), (1, .int x1), (2, .int x2), (3, .int x3), (4, .int x4), (5, .int x5)] → ff_X7_laysAll_j128 M x0 x1 x2 x3 x4 x5 y0 = some y → W p l e rm_X7_laysAll s m args below meth c H locs 0 0 (MQ below (mm_Ti g A r M2) args s 0 0 A) (F0 m 128 ls [.int y0]) := by
      intro M x1 x4 x5 y0 H locs ls hR hS hl hf
      unfold ff_X7_laysAll_j128 at hf
      refine lv_istore (lv' := [(6, .int y0), (0, .ref x0), (1, .int x1), (2, .int x2), (3, .int x3), (4, .int x4), (5, .int x5)]) hx hb dX7_laysAll_128 hl (by decide) rfl (fun ls hl => ?_)
      refine lv_iload_n hx hb dX7_laysAll_130 rfl (lv_at hl 2 rfl) ?_
      refine lv_aload_n hx hb dX7_laysAll_131 rfl (lv_at hl 1 rfl) ?_
      refine lv_iload hx hb dX7_laysAll_132 (lv_at hl 6 rfl) ?_
      refine lv_iload hx hb dX7_laysAll_134 (lv_at hl 0 rfl) ?_
      refine lv_aload_n hx hb dX7_laysAll_136 rfl (lv_at hl 1 rfl) ?_
      obtain ⟨v7, ev7, hf⟩ := mm_bd hf
      refine mm_getR C hR fs_X7_7 ev7 dX7_laysAll_137 ?_
      refine lv_iconst (v := 0) hx hb dX7_laysAll_140 (by decide) ?_
      obtain ⟨v8, ev8, hf⟩ := mm_bd hf
      refine mm_iald C hR ev8 dX7_laysAll_141 ?_
      refine lv_imul hx hb dX7_laysAll_142 ?_
      refine lv_iadd hx hb dX7_laysAll_143 ?_
      obtain ⟨u9, eu9, hf⟩ := mm_bd hf
      obtain ⟨⟨v10, M11⟩, ev10, hf⟩ := mm_bd hf
      have hf := mm_u2e hf
      refine mm_callVi (As := [.int (x5 + (y0 * v8))]) (rest := [.int x1]) C hR hS hl.1 vs_X7_138 eu9 (jj_X7_laysIfEmpty l g A M x0 (x5 + (y0 * v8)) v10 M11 ev10) ⟨rfl, rfl, (Nat.le_of_ble_eq_true rfl), (Nat.le_of_ble_eq_true rfl)⟩ rfl (Nat.le_of_ble_eq_true rfl) ⟨Nat.zero_le _, Nat.zero_le _⟩ rfl dX7_laysAll_144 (fun H locs hR hS => ?_)
      refine lv_iadd hx hb dX7_laysAll_147 ?_
      refine lv_istore_n (lv' := [(1, .int (x1 + v10)), (6, .int y0), (0, .ref x0), (2, .int x2), (3, .int x3), (4, .int x4), (5, .int x5)]) hx hb dX7_laysAll_148 rfl hl (by decide) rfl (fun ls hl => ?_)
      refine lv_iinc (v := (x4 + (1 : Int32))) (lv' := [(4, .int (x4 + (1 : Int32))), (1, .int (x1 + v10)), (6, .int y0), (0, .ref x0), (2, .int x2), (3, .int x3), (5, .int x5)]) hx hb dX7_laysAll_149 hl (k := 5) rfl rfl (by decide) rfl (fun ls hl => ?_)
      refine lv_goto (tgt := 23) hx hb dX7_laysAll_152 (by decide) ?_
      exact hin _ (Option.some.inj hf).symm H locs ls hR hS (lv_sub hl [3, 1, 4, 5, 0] rfl)
    have J77 : ∀ (M : mm_M) (x1 : Int32) (x4 : Int32) (y0 : Int32) (H : Heap) (locs : List Loc) (ls : Array Slot), mm_R g A M H → va_S A s.heap H locs → lv_has ls 7 [(0, .ref x0), (1, .int x1), (2, .int x2), (3, .int x3), (4, .int x4)] → ff_X7_laysAll_j77 M x0 x1 x2 x3 x4 y0 = some y → W p l e rm_X7_laysAll s m args below meth c H locs 0 0 (MQ below (mm_Ti g A r M2) args s 0 0 A) (F0 m 77 ls [.int y0]) := by
      intro M x1 x4 y0 H locs ls hR hS hl hf
      unfold ff_X7_laysAll_j77 at hf
      refine lv_istore (lv' := [(5, .int y0), (0, .ref x0), (1, .int x1), (2, .int x2), (3, .int x3), (4, .int x4)]) hx hb dX7_laysAll_77 hl (by decide) rfl (fun ls hl => ?_)
      refine lv_iload hx hb dX7_laysAll_79 (lv_at hl 5 rfl) ?_
      refine lv_iload_n hx hb dX7_laysAll_81 rfl (lv_at hl 3 rfl) ?_
      refine lv_icmp_ge (tgt := 89) hx hb dX7_laysAll_82 (by decide) (fun hc => ?_) (fun hc => ?_)
      · have hf := mm_if1 hc hf
        refine lv_iload hx hb dX7_laysAll_89 (lv_at hl 5 rfl) ?_
        refine lv_iload_n hx hb dX7_laysAll_91 rfl (lv_at hl 3 rfl) ?_
        refine lv_iload_n hx hb dX7_laysAll_92 rfl (lv_at hl 4 rfl) ?_
        refine lv_iadd hx hb dX7_laysAll_93 ?_
        refine lv_icmp_ge (tgt := 104) hx hb dX7_laysAll_94 (by decide) (fun hc => ?_) (fun hc => ?_)
        · have hf := mm_if1 hc hf
          refine lv_iload hx hb dX7_laysAll_104 (lv_at hl 5 rfl) ?_
          refine lv_iconst (v := 2) hx hb dX7_laysAll_106 (by decide) ?_
          refine lv_iload_n hx hb dX7_laysAll_107 rfl (lv_at hl 3 rfl) ?_
          refine lv_imul hx hb dX7_laysAll_108 ?_
          refine lv_iload_n hx hb dX7_laysAll_109 rfl (lv_at hl 4 rfl) ?_
          refine lv_iadd hx hb dX7_laysAll_110 ?_
          refine lv_icmp_ge (tgt := 118) hx hb dX7_laysAll_111 (by decide) (fun hc => ?_) (fun hc => ?_)
          · have hf := mm_if1 hc hf
            refine lv_iconst (v := 2) hx hb dX7_laysAll_118 (by decide) ?_
            refine lv_iload_n hx hb dX7_laysAll_119 rfl (lv_at hl 3 rfl) ?_
            refine lv_imul hx hb dX7_laysAll_120 ?_
            refine lv_iconst (v := 2) hx hb dX7_laysAll_121 (by decide) ?_
            refine lv_iload_n hx hb dX7_laysAll_122 rfl (lv_at hl 4 rfl) ?_
            refine lv_imul hx hb dX7_laysAll_123 ?_
            refine lv_iadd hx hb dX7_laysAll_124 ?_
            refine lv_iload hx hb dX7_laysAll_125 (lv_at hl 5 rfl) ?_
            refine lv_isub hx hb dX7_laysAll_127 ?_
            exact J128 M x1 x4 y0 ((((2 : Int32) * x2) + ((2 : Int32) * x3)) - x4) H locs ls hR hS (lv_sub hl [1, 2, 3, 4, 5, 0] rfl) hf
          · have hf := mm_if0 hc hf
            refine lv_iload_n hx hb dX7_laysAll_114 rfl (lv_at hl 4 rfl) ?_
            refine lv_goto (tgt := 128) hx hb dX7_laysAll_115 (by decide) ?_
            exact J128 M x1 x4 y0 x3 H locs ls hR hS (lv_sub hl [1, 2, 3, 4, 5, 0] rfl) hf
        · have hf := mm_if0 hc hf
          refine lv_iload hx hb dX7_laysAll_97 (lv_at hl 5 rfl) ?_
          refine lv_iload_n hx hb dX7_laysAll_99 rfl (lv_at hl 3 rfl) ?_
          refine lv_isub hx hb dX7_laysAll_100 ?_
          refine lv_goto (tgt := 128) hx hb dX7_laysAll_101 (by decide) ?_
          exact J128 M x1 x4 y0 (x4 - x2) H locs ls hR hS (lv_sub hl [1, 2, 3, 4, 5, 0] rfl) hf
      · have hf := mm_if0 hc hf
        refine lv_iconst (v := 0) hx hb dX7_laysAll_85 (by decide) ?_
        refine lv_goto (tgt := 128) hx hb dX7_laysAll_86 (by decide) ?_
        exact J128 M x1 x4 y0 (0 : Int32) H locs ls hR hS (lv_sub hl [1, 2, 3, 4, 5, 0] rfl) hf
    intro H locs ls hR hS hl
    unfold ff_X7_laysAll_l23 at hf
    refine lv_iload hx hb dX7_laysAll_23 (lv_at hl 4 rfl) ?_
    refine lv_aload_n hx hb dX7_laysAll_25 rfl (lv_at hl 0 rfl) ?_
    obtain ⟨u5, eu5, hf⟩ := mm_bd hf
    obtain ⟨v6, ev6, hf⟩ := mm_bd hf
    refine mm_callVi (As := []) (rest := [.int x4]) C hR hS hl.1 vs_X7_56 eu5 (jj_X7_around l g A M x0 v6 ev6) ⟨rfl, rfl, (Nat.le_of_ble_eq_true rfl), (Nat.le_of_ble_eq_true rfl)⟩ rfl (Nat.le_of_ble_eq_true rfl) ⟨Nat.zero_le _, Nat.zero_le _⟩ rfl dX7_laysAll_26 (fun H locs hR hS => ?_)
    refine lv_icmp_ge (tgt := 155) hx hb dX7_laysAll_29 (by decide) (fun hc => ?_) (fun hc => ?_)
    · have hf := mm_if1 hc hf
      exact hX _ _ _ (hout _ (Option.some.inj hf).symm).symm H locs ls hR hS (lv_sub hl [0, 1] rfl)
    · have hf := mm_if0 hc hf
      refine lv_iload hx hb dX7_laysAll_32 (lv_at hl 4 rfl) ?_
      refine lv_iload_n hx hb dX7_laysAll_34 rfl (lv_at hl 2 rfl) ?_
      refine lv_icmp_ge (tgt := 43) hx hb dX7_laysAll_35 (by decide) (fun hc => ?_) (fun hc => ?_)
      · have hf := mm_if1 hc hf
        refine lv_iload hx hb dX7_laysAll_43 (lv_at hl 4 rfl) ?_
        refine lv_iload_n hx hb dX7_laysAll_45 rfl (lv_at hl 2 rfl) ?_
        refine lv_iload_n hx hb dX7_laysAll_46 rfl (lv_at hl 3 rfl) ?_
        refine lv_iadd hx hb dX7_laysAll_47 ?_
        refine lv_icmp_ge (tgt := 55) hx hb dX7_laysAll_48 (by decide) (fun hc => ?_) (fun hc => ?_)
        · have hf := mm_if1 hc hf
          refine lv_iload hx hb dX7_laysAll_55 (lv_at hl 4 rfl) ?_
          refine lv_iconst (v := 2) hx hb dX7_laysAll_57 (by decide) ?_
          refine lv_iload_n hx hb dX7_laysAll_58 rfl (lv_at hl 2 rfl) ?_
          refine lv_imul hx hb dX7_laysAll_59 ?_
          refine lv_iload_n hx hb dX7_laysAll_60 rfl (lv_at hl 3 rfl) ?_
          refine lv_iadd hx hb dX7_laysAll_61 ?_
          refine lv_icmp_ge (tgt := 76) hx hb dX7_laysAll_62 (by decide) (fun hc => ?_) (fun hc => ?_)
          · have hf := mm_if1 hc hf
            refine lv_iconst (v := 0) hx hb dX7_laysAll_76 (by decide) ?_
            exact J77 M x1 x4 (0 : Int32) H locs ls hR hS (lv_sub hl [0, 1, 2, 3, 4] rfl) hf
          · have hf := mm_if0 hc hf
            refine lv_iconst (v := 2) hx hb dX7_laysAll_65 (by decide) ?_
            refine lv_iload_n hx hb dX7_laysAll_66 rfl (lv_at hl 2 rfl) ?_
            refine lv_imul hx hb dX7_laysAll_67 ?_
            refine lv_iload_n hx hb dX7_laysAll_68 rfl (lv_at hl 3 rfl) ?_
            refine lv_iadd hx hb dX7_laysAll_69 ?_
            refine lv_iload hx hb dX7_laysAll_70 (lv_at hl 4 rfl) ?_
            refine lv_isub hx hb dX7_laysAll_72 ?_
            refine lv_goto (tgt := 77) hx hb dX7_laysAll_73 (by decide) ?_
            exact J77 M x1 x4 ((((2 : Int32) * x2) + x3) - x4) H locs ls hR hS (lv_sub hl [0, 1, 2, 3, 4] rfl) hf
        · have hf := mm_if0 hc hf
          refine lv_iload_n hx hb dX7_laysAll_51 rfl (lv_at hl 2 rfl) ?_
          refine lv_goto (tgt := 77) hx hb dX7_laysAll_52 (by decide) ?_
          exact J77 M x1 x4 x2 H locs ls hR hS (lv_sub hl [0, 1, 2, 3, 4] rfl) hf
      · have hf := mm_if0 hc hf
        refine lv_iload hx hb dX7_laysAll_38 (lv_at hl 4 rfl) ?_
        refine lv_goto (tgt := 77) hx hb dX7_laysAll_40 (by decide) ?_
        exact J77 M x1 x4 x4 H locs ls hR hS (lv_sub hl [0, 1, 2, 3, 4] rfl) hf
  have L158 : ∀ (x0 : Nat) (e1 : Int32 × Int32 × mm_M) (hX : ∀ (x1 : Int32) (x4 : Int32) (M : mm_M), e1 = (x1, x4, M) → ∀ (H : Heap) (locs : List Loc) (ls : Array Slot), mm_R g A M H → va_S A s.heap H locs → lv_has ls 7 [(1, .int x1)] → W p l e rm_X7_laysAll s m args below meth c H locs 0 0 (MQ below (mm_Ti g A r M2) args s 0 0 A) (F0 m 182 ls [])) (n : Nat) (x1 : Int32) (x4 : Int32) (M : mm_M), mm_it (mm_u3 (ff_X7_laysAll_l158 x0)) n (x1, x4, M) = some e1 → ∀ (H : Heap) (locs : List Loc) (ls : Array Slot), mm_R g A M H → va_S A s.heap H locs → lv_has ls 7 [(0, .ref x0), (1, .int x1), (4, .int x4)] → W p l e rm_X7_laysAll s m args below meth c H locs 0 0 (MQ below (mm_Ti g A r M2) args s 0 0 A) (F0 m 158 ls []) := by
    intro x0 e1 hX n x1 x4 M hit
    refine mm_itW (Hd := fun st => ∀ (H : Heap) (locs : List Loc) (ls : Array Slot), mm_R g A st.2.2 H → va_S A s.heap H locs → lv_has ls 7 [(0, .ref x0), (1, .int st.1), (4, .int st.2.1)] → W p l e rm_X7_laysAll s m args below meth c H locs 0 0 (MQ below (mm_Ti g A r M2) args s 0 0 A) (F0 m 158 ls [])) (fun st y hf hin hout => ?_) n (x1, x4, M) hit
    obtain ⟨x1, x4, M⟩ := st
    have hf := mm_u3e hf
    intro H locs ls hR hS hl
    unfold ff_X7_laysAll_l158 at hf
    refine lv_iload hx hb dX7_laysAll_158 (lv_at hl 2 rfl) ?_
    refine lv_aload_n hx hb dX7_laysAll_160 rfl (lv_at hl 0 rfl) ?_
    obtain ⟨u16, eu16, hf⟩ := mm_bd hf
    obtain ⟨v17, ev17, hf⟩ := mm_bd hf
    refine mm_callVi (As := []) (rest := [.int x4]) C hR hS hl.1 vs_X7_41 eu16 (jj_X7_cells l g A M x0 v17 ev17) ⟨rfl, rfl, (Nat.le_of_ble_eq_true rfl), (Nat.le_of_ble_eq_true rfl)⟩ rfl (Nat.le_of_ble_eq_true rfl) ⟨Nat.zero_le _, Nat.zero_le _⟩ rfl dX7_laysAll_161 (fun H locs hR hS => ?_)
    refine lv_icmp_ge (tgt := 182) hx hb dX7_laysAll_164 (by decide) (fun hc => ?_) (fun hc => ?_)
    · have hf := mm_if1 hc hf
      exact hX _ _ _ (hout _ (Option.some.inj hf).symm).symm H locs ls hR hS (lv_sub hl [1] rfl)
    · have hf := mm_if0 hc hf
      refine lv_iload_n hx hb dX7_laysAll_167 rfl (lv_at hl 1 rfl) ?_
      refine lv_aload_n hx hb dX7_laysAll_168 rfl (lv_at hl 0 rfl) ?_
      refine lv_iload hx hb dX7_laysAll_169 (lv_at hl 2 rfl) ?_
      obtain ⟨u18, eu18, hf⟩ := mm_bd hf
      obtain ⟨⟨v19, M20⟩, ev19, hf⟩ := mm_bd hf
      have hf := mm_u2e hf
      refine mm_callVi (As := [.int x4]) (rest := [.int x1]) C hR hS hl.1 vs_X7_138 eu18 (jj_X7_laysIfEmpty l g A M x0 x4 v19 M20 ev19) ⟨rfl, rfl, (Nat.le_of_ble_eq_true rfl), (Nat.le_of_ble_eq_true rfl)⟩ rfl (Nat.le_of_ble_eq_true rfl) ⟨Nat.zero_le _, Nat.zero_le _⟩ rfl dX7_laysAll_171 (fun H locs hR hS => ?_)
      refine lv_iadd hx hb dX7_laysAll_174 ?_
      refine lv_istore_n (lv' := [(1, .int (x1 + v19)), (0, .ref x0), (4, .int x4)]) hx hb dX7_laysAll_175 rfl hl (by decide) rfl (fun ls hl => ?_)
      refine lv_iinc (v := (x4 + (1 : Int32))) (lv' := [(4, .int (x4 + (1 : Int32))), (1, .int (x1 + v19)), (0, .ref x0)]) hx hb dX7_laysAll_176 hl (k := 2) rfl rfl (by decide) rfl (fun ls hl => ?_)
      refine lv_goto (tgt := 158) hx hb dX7_laysAll_179 (by decide) ?_
      exact hin _ (Option.some.inj hf).symm H locs ls hR hS (lv_sub hl [2, 1, 0] rfl)
  unfold ff_X7_laysAll at hf
  refine lv_iconst (v := 0) hx hb dX7_laysAll_0 (by decide) ?_
  refine lv_istore_n (lv' := [(1, .int (0 : Int32)), (0, .ref x0)]) hx hb dX7_laysAll_1 rfl hl (by decide) rfl (fun ls hl => ?_)
  refine lv_aload_n hx hb dX7_laysAll_2 rfl (lv_at hl 1 rfl) ?_
  obtain ⟨v1, ev1, hf⟩ := mm_bd hf
  refine mm_getR C hR fs_X7_7 ev1 dX7_laysAll_3 ?_
  refine lv_iconst (v := 0) hx hb dX7_laysAll_6 (by decide) ?_
  obtain ⟨v2, ev2, hf⟩ := mm_bd hf
  refine mm_iald C hR ev2 dX7_laysAll_7 ?_
  refine lv_iconst (v := 1) hx hb dX7_laysAll_8 (by decide) ?_
  refine lv_isub hx hb dX7_laysAll_9 ?_
  refine lv_istore_n (lv' := [(2, .int (v2 - (1 : Int32))), (1, .int (0 : Int32)), (0, .ref x0)]) hx hb dX7_laysAll_10 rfl hl (by decide) rfl (fun ls hl => ?_)
  refine lv_aload_n hx hb dX7_laysAll_11 rfl (lv_at hl 2 rfl) ?_
  obtain ⟨v3, ev3, hf⟩ := mm_bd hf
  refine mm_getR C hR fs_X7_7 ev3 dX7_laysAll_12 ?_
  refine lv_iconst (v := 1) hx hb dX7_laysAll_15 (by decide) ?_
  obtain ⟨v4, ev4, hf⟩ := mm_bd hf
  refine mm_iald C hR ev4 dX7_laysAll_16 ?_
  refine lv_iconst (v := 1) hx hb dX7_laysAll_17 (by decide) ?_
  refine lv_isub hx hb dX7_laysAll_18 ?_
  refine lv_istore_n (lv' := [(3, .int (v4 - (1 : Int32))), (2, .int (v2 - (1 : Int32))), (1, .int (0 : Int32)), (0, .ref x0)]) hx hb dX7_laysAll_19 rfl hl (by decide) rfl (fun ls hl => ?_)
  refine lv_iconst (v := 0) hx hb dX7_laysAll_20 (by decide) ?_
  refine lv_istore (lv' := [(4, .int (0 : Int32)), (3, .int (v4 - (1 : Int32))), (2, .int (v2 - (1 : Int32))), (1, .int (0 : Int32)), (0, .ref x0)]) hx hb dX7_laysAll_21 hl (by decide) rfl (fun ls hl => ?_)
  obtain ⟨e12, he12, hf⟩ := mm_bd hf
  refine L23 x0 (v2 - (1 : Int32)) (v4 - (1 : Int32)) e12 (fun x1_13 x4_14 M15 he => ?_) _ (0 : Int32) (0 : Int32) M he12 H locs ls hR hS (lv_sub hl [4, 3, 2, 1, 0] rfl)
  subst he
  intro H locs ls hR hS hl
  have hf := mm_u3e hf
  refine lv_iconst (v := 0) hx hb dX7_laysAll_155 (by decide) ?_
  refine lv_istore (lv' := [(4, .int (0 : Int32)), (0, .ref x0), (1, .int x1_13)]) hx hb dX7_laysAll_156 hl (by decide) rfl (fun ls hl => ?_)
  obtain ⟨e21, he21, hf⟩ := mm_bd hf
  refine L158 x0 e21 (fun x1_22 x4_23 M24 he => ?_) _ x1_13 (0 : Int32) M15 he21 H locs ls hR hS (lv_sub hl [1, 2, 0] rfl)
  subst he
  intro H locs ls hR hS hl
  have hf := mm_u3e hf
  refine lv_iload_n hx hb dX7_laysAll_182 rfl (lv_at hl 0 rfl) ?_
  exact mm_ire C hR hS hr ((mm_pe hf).1) (mm_pe hf).2 dX7_laysAll_183
def ff_X7_layAll (M : mm_M) (x0 : Nat) : Option ((Int32 × mm_M)) := Option.bind (mm_ck 7 M x0) fun u1 => Option.bind (ff_X7_keep M x0) fun M2 => Option.bind (mm_ck 7 M2 x0) fun u3 => Option.bind (ff_X7_laysAll M2 x0) (mm_u2 fun v4 M5 => some (v4, M5))
def rm_X7_layAll : Room := { frames := 8, cells := 0, slots := 0, locals := 188 }
set_option maxHeartbeats 4000000 in
set_option maxRecDepth 100000 in
theorem jj_X7_layAll (l : Launch) (g : mm_G) (A : Nat → Prop) (M : mm_M) (x0 : Nat) (r : Int32) (M2 : mm_M) (hf : ff_X7_layAll M x0 = some (r, M2)) : Met l yX7_layAll (mm_ws yX7_layAll cX7_layAll 1 (Option.some Jvm.ClassFile.FieldType.int)) rm_X7_layAll (va_Pc [.ref x0] (mm_B g A M)) (mm_Ti g A r M2) 0 0 A := by
  refine mm_met (g := g) (lv := [(0, .ref x0)]) (fun U h => h.2) (by decide +kernel) (Nat.le_of_ble_eq_true rfl) rfl ?_
  intro p e s m args below meth c ls C hr hnm hB hl
  obtain ⟨hR, hK⟩ := hB
  have hx := C.1
  have hb := C.2.1
  suffices hmain : ∀ (H : Heap) (locs : List Loc), mm_R g A M H → va_S A s.heap H locs → W p l e rm_X7_layAll s m args below meth c H locs 0 0 (MQ below (mm_Ti g A r M2) args s 0 0 A) (F0 m 0 ls []) from hmain _ _ hR va_S.rf
  clear hR
  intro H locs hR hS
  unfold ff_X7_layAll at hf
  refine lv_aload_n hx hb dX7_layAll_0 rfl (lv_at hl 0 rfl) ?_
  obtain ⟨u1, eu1, hf⟩ := mm_bd hf
  obtain ⟨M2, eM2, hf⟩ := mm_bd hf
  refine mm_callVv (As := []) (rest := []) C hR hS hl.1 vs_X7_62 eu1 (jj_X7_keep l g A M x0 M2 eM2) ⟨rfl, rfl, (Nat.le_of_ble_eq_true rfl), (Nat.le_of_ble_eq_true rfl)⟩ rfl (Nat.le_of_ble_eq_true rfl) ⟨Nat.zero_le _, Nat.zero_le _⟩ rfl dX7_layAll_1 (fun H locs hR hS => ?_)
  refine lv_aload_n hx hb dX7_layAll_4 rfl (lv_at hl 0 rfl) ?_
  obtain ⟨u3, eu3, hf⟩ := mm_bd hf
  obtain ⟨⟨v4, M5⟩, ev4, hf⟩ := mm_bd hf
  have hf := mm_u2e hf
  refine mm_callVi (As := []) (rest := []) C hR hS hl.1 vs_X7_141 eu3 (jj_X7_laysAll l g A M2 x0 v4 M5 ev4) ⟨rfl, rfl, (Nat.le_of_ble_eq_true rfl), (Nat.le_of_ble_eq_true rfl)⟩ rfl (Nat.le_of_ble_eq_true rfl) ⟨Nat.zero_le _, Nat.zero_le _⟩ rfl dX7_layAll_5 (fun H locs hR hS => ?_)
  exact mm_ire C hR hS hr ((mm_pe hf).1) (mm_pe hf).2 dX7_layAll_8
def ff_X7_lift_j148 (M : mm_M) (x0 : Nat) (x3 : Int32) (x4 : Int32) (y0 : Int32) (y1 : Int32) (y2 : Int32) (y3 : Nat) : Option ((Int32 × mm_M)) := Option.bind (mm_sI 0 M y3 y2 (y1 + y0)) fun M27 => Option.bind (mm_gR 7 M27 x0 0) fun v28 => Option.bind (mm_sI 0 M27 v28 ((164 : Int32) + x3) (-1 : Int32)) fun M29 => if x4 = (0 : Int32) then (some ((0 : Int32), M29)) else (some ((1 : Int32), M29))
def ff_X7_lift_j123 (M : mm_M) (x0 : Nat) (x3 : Int32) (x4 : Int32) (y0 : Int32) (y1 : Int32) (y2 : Int32) (y3 : Nat) : Option ((Int32 × mm_M)) := Option.bind (mm_sI 0 M y3 y2 (y1 + y0)) fun M22 => Option.bind (mm_gR 7 M22 x0 0) fun v23 => Option.bind (mm_aI 0 M22 v23 (9 : Int32)) fun v24 => if x4 = (0 : Int32) then (Option.bind (mm_gR 7 M22 x0 0) fun v25 => Option.bind (mm_aI 0 M22 v25 (2 : Int32)) fun v26 => ff_X7_lift_j148 M22 x0 x3 x4 v26 v24 (9 : Int32) v23) else (ff_X7_lift_j148 M22 x0 x3 x4 (0 : Int32) v24 (9 : Int32) v23)
def ff_X7_lift_j103 (M : mm_M) (x0 : Nat) (x3 : Int32) (x4 : Int32) (y0 : Int32) (y1 : Int32) (y2 : Int32) (y3 : Nat) : Option ((Int32 × mm_M)) := Option.bind (mm_sI 0 M y3 y2 (y1 + y0)) fun M19 => Option.bind (mm_gR 7 M19 x0 0) fun v20 => Option.bind (mm_aI 0 M19 v20 (8 : Int32)) fun v21 => if x4 = (0 : Int32) then (ff_X7_lift_j123 M19 x0 x3 x4 (1 : Int32) v21 (8 : Int32) v20) else (ff_X7_lift_j123 M19 x0 x3 x4 (0 : Int32) v21 (8 : Int32) v20)
def ff_X7_lift_j71 (M : mm_M) (x0 : Nat) (x3 : Int32) (y0 : Int32) : Option ((Int32 × mm_M)) := Option.bind (mm_gR 7 M x0 0) fun v15 => Option.bind (mm_gR 7 M x0 0) fun v16 => Option.bind (mm_aI 0 M v16 ((164 : Int32) + x3)) fun v17 => Option.bind (mm_aI 0 M v15 ((308 : Int32) + v17)) fun v18 => if y0 = (0 : Int32) then (ff_X7_lift_j103 M x0 x3 y0 (0 : Int32) v18 ((308 : Int32) + v17) v15) else (ff_X7_lift_j103 M x0 x3 y0 (1 : Int32) v18 ((308 : Int32) + v17) v15)
def ff_X7_lift (M : mm_M) (x0 : Nat) (x1 : Int32) (x2 : Int32) : Option ((Int32 × mm_M)) := Option.bind (mm_ck 7 M x0) fun u1 => Option.bind (ff_X7_isCell M x0 x1 x2) fun v2 => if v2 = (0 : Int32) then (some ((-1 : Int32), M)) else (Option.bind (mm_gR 7 M x0 0) fun v3 => Option.bind (mm_aI 0 M v3 (0 : Int32)) fun v4 => Option.bind (mm_gR 7 M x0 0) fun v5 => Option.bind (mm_aI 0 M v5 ((164 : Int32) + (x1 + (x2 * v4)))) fun v6 => if v6 = (-1 : Int32) then (some ((-2 : Int32), M)) else (Option.bind (mm_ck 7 M x0) fun u7 => Option.bind (ff_X7_keep M x0) fun M8 => Option.bind (mm_gR 7 M8 x0 0) fun v9 => Option.bind (mm_aI 0 M8 v9 (7 : Int32)) fun v10 => Option.bind (mm_sI 0 M8 v9 (7 : Int32) (v10 + (1 : Int32))) fun M11 => Option.bind (mm_gR 7 M11 x0 0) fun v12 => Option.bind (mm_aI 0 M11 v12 (7 : Int32)) fun v13 => Option.bind (mm_rm v13 (3 : Int32)) fun v14 => if v14 = (0 : Int32) then (ff_X7_lift_j71 M11 x0 (x1 + (x2 * v4)) (0 : Int32)) else (ff_X7_lift_j71 M11 x0 (x1 + (x2 * v4)) (1 : Int32))))
def rm_X7_lift : Room := { frames := 2, cells := 0, slots := 0, locals := 45 }
set_option maxHeartbeats 4000000 in
set_option maxRecDepth 100000 in
theorem jj_X7_lift (l : Launch) (g : mm_G) (A : Nat → Prop) (M : mm_M) (x0 : Nat) (x1 : Int32) (x2 : Int32) (r : Int32) (M2 : mm_M) (hf : ff_X7_lift M x0 x1 x2 = some (r, M2)) : Met l yX7_lift (mm_ws yX7_lift cX7_lift 5 (Option.some Jvm.ClassFile.FieldType.int)) rm_X7_lift (va_Pc [.ref x0, .int x1, .int x2] (mm_B g A M)) (mm_Ti g A r M2) 0 0 A := by
  refine mm_met (g := g) (lv := [(0, .ref x0), (1, .int x1), (2, .int x2)]) (fun U h => h.2) (by decide +kernel) (Nat.le_of_ble_eq_true rfl) rfl ?_
  intro p e s m args below meth c ls C hr hnm hB hl
  obtain ⟨hR, hK⟩ := hB
  have hx := C.1
  have hb := C.2.1
  suffices hmain : ∀ (H : Heap) (locs : List Loc), mm_R g A M H → va_S A s.heap H locs → W p l e rm_X7_lift s m args below meth c H locs 0 0 (MQ below (mm_Ti g A r M2) args s 0 0 A) (F0 m 0 ls []) from hmain _ _ hR va_S.rf
  clear hR
  intro H locs hR hS
  have J148 : ∀ (M : mm_M) (x0 : Nat) (x3 : Int32) (x4 : Int32) (y0 : Int32) (y1 : Int32) (y2 : Int32) (y3 : Nat) (H : Heap) (locs : List Loc) (ls : Array Slot), mm_R g A M H → va_S A s.heap H locs → lv_has ls 5 [(0, .ref x0), (3, .int x3), (4, .int x4)] → ff_X7_lift_j148 M x0 x3 x4 y0 y1 y2 y3 = some (r, M2) → W p l e rm_X7_lift s m args below meth c H locs 0 0 (MQ below (mm_Ti g A r M2) args s 0 0 A) (F0 m 148 ls [.int y0, .int y1, .int y2, .ref y3]) := by
    intro M x0 x3 x4 y0 y1 y2 y3 H locs ls hR hS hl hf
    unfold ff_X7_lift_j148 at hf
    refine lv_iadd hx hb dX7_lift_148 ?_
    obtain ⟨M27, eM27, hf⟩ := mm_bd hf
    refine mm_iast C hR hS eM27 dX7_lift_149 (fun H locs hR hS => ?_)
    refine lv_aload_n hx hb dX7_lift_150 rfl (lv_at hl 0 rfl) ?_
    obtain ⟨v28, ev28, hf⟩ := mm_bd hf
    refine mm_getR C hR fs_X7_7 ev28 dX7_lift_151 ?_
    refine lv_sipush (v := 164) hx hb dX7_lift_154 (by decide) ?_
    refine lv_iload_n hx hb dX7_lift_157 rfl (lv_at hl 1 rfl) ?_
    refine lv_iadd hx hb dX7_lift_158 ?_
    refine lv_iconst (v := -1) hx hb dX7_lift_159 (by decide) ?_
    obtain ⟨M29, eM29, hf⟩ := mm_bd hf
    refine mm_iast C hR hS eM29 dX7_lift_160 (fun H locs hR hS => ?_)
    refine lv_iload hx hb dX7_lift_161 (lv_at hl 2 rfl) ?_
    refine lv_if_eq (tgt := 170) hx hb dX7_lift_163 (by decide) (fun hc => ?_) (fun hc => ?_)
    · have hf := mm_if1 hc hf
      refine lv_iconst (v := 0) hx hb dX7_lift_170 (by decide) ?_
      exact mm_ire C hR hS hr ((mm_pe hf).1) (mm_pe hf).2 dX7_lift_171
    · have hf := mm_if0 hc hf
      refine lv_iconst (v := 1) hx hb dX7_lift_166 (by decide) ?_
      refine lv_goto (tgt := 171) hx hb dX7_lift_167 (by decide) ?_
      exact mm_ire C hR hS hr ((mm_pe hf).1) (mm_pe hf).2 dX7_lift_171
  have J123 : ∀ (M : mm_M) (x0 : Nat) (x3 : Int32) (x4 : Int32) (y0 : Int32) (y1 : Int32) (y2 : Int32) (y3 : Nat) (H : Heap) (locs : List Loc) (ls : Array Slot), mm_R g A M H → va_S A s.heap H locs → lv_has ls 5 [(0, .ref x0), (3, .int x3), (4, .int x4)] → ff_X7_lift_j123 M x0 x3 x4 y0 y1 y2 y3 = some (r, M2) → W p l e rm_X7_lift s m args below meth c H locs 0 0 (MQ below (mm_Ti g A r M2) args s 0 0 A) (F0 m 123 ls [.int y0, .int y1, .int y2, .ref y3]) := by
    intro M x0 x3 x4 y0 y1 y2 y3 H locs ls hR hS hl hf
    unfold ff_X7_lift_j123 at hf
    refine lv_iadd hx hb dX7_lift_123 ?_
    obtain ⟨M22, eM22, hf⟩ := mm_bd hf
    refine mm_iast C hR hS eM22 dX7_lift_124 (fun H locs hR hS => ?_)
    refine lv_aload_n hx hb dX7_lift_125 rfl (lv_at hl 0 rfl) ?_
    obtain ⟨v23, ev23, hf⟩ := mm_bd hf
    refine mm_getR C hR fs_X7_7 ev23 dX7_lift_126 ?_
    refine lv_bipush (v := 9) hx hb dX7_lift_129 (by decide) ?_
    refine lv_dup2_11 hx hb dX7_lift_131 rfl rfl ?_
    obtain ⟨v24, ev24, hf⟩ := mm_bd hf
    refine mm_iald C hR ev24 dX7_lift_132 ?_
    refine lv_iload hx hb dX7_lift_133 (lv_at hl 2 rfl) ?_
    refine lv_if_eq (tgt := 142) hx hb dX7_lift_135 (by decide) (fun hc => ?_) (fun hc => ?_)
    · have hf := mm_if1 hc hf
      refine lv_aload_n hx hb dX7_lift_142 rfl (lv_at hl 0 rfl) ?_
      obtain ⟨v25, ev25, hf⟩ := mm_bd hf
      refine mm_getR C hR fs_X7_7 ev25 dX7_lift_143 ?_
      refine lv_iconst (v := 2) hx hb dX7_lift_146 (by decide) ?_
      obtain ⟨v26, ev26, hf⟩ := mm_bd hf
      refine mm_iald C hR ev26 dX7_lift_147 ?_
      exact J148 M22 x0 x3 x4 v26 v24 (9 : Int32) v23 H locs ls hR hS (lv_sub hl [0, 1, 2] rfl) hf
    · have hf := mm_if0 hc hf
      refine lv_iconst (v := 0) hx hb dX7_lift_138 (by decide) ?_
      refine lv_goto (tgt := 148) hx hb dX7_lift_139 (by decide) ?_
      exact J148 M22 x0 x3 x4 (0 : Int32) v24 (9 : Int32) v23 H locs ls hR hS (lv_sub hl [0, 1, 2] rfl) hf
  have J103 : ∀ (M : mm_M) (x0 : Nat) (x3 : Int32) (x4 : Int32) (y0 : Int32) (y1 : Int32) (y2 : Int32) (y3 : Nat) (H : Heap) (locs : List Loc) (ls : Array Slot), mm_R g A M H → va_S A s.heap H locs → lv_has ls 5 [(0, .ref x0), (3, .int x3), (4, .int x4)] → ff_X7_lift_j103 M x0 x3 x4 y0 y1 y2 y3 = some (r, M2) → W p l e rm_X7_lift s m args below meth c H locs 0 0 (MQ below (mm_Ti g A r M2) args s 0 0 A) (F0 m 103 ls [.int y0, .int y1, .int y2, .ref y3]) := by
    intro M x0 x3 x4 y0 y1 y2 y3 H locs ls hR hS hl hf
    unfold ff_X7_lift_j103 at hf
    refine lv_iadd hx hb dX7_lift_103 ?_
    obtain ⟨M19, eM19, hf⟩ := mm_bd hf
    refine mm_iast C hR hS eM19 dX7_lift_104 (fun H locs hR hS => ?_)
    refine lv_aload_n hx hb dX7_lift_105 rfl (lv_at hl 0 rfl) ?_
    obtain ⟨v20, ev20, hf⟩ := mm_bd hf
    refine mm_getR C hR fs_X7_7 ev20 dX7_lift_106 ?_
    refine lv_bipush (v := 8) hx hb dX7_lift_109 (by decide) ?_
    refine lv_dup2_11 hx hb dX7_lift_111 rfl rfl ?_
    obtain ⟨v21, ev21, hf⟩ := mm_bd hf
    refine mm_iald C hR ev21 dX7_lift_112 ?_
    refine lv_iload hx hb dX7_lift_113 (lv_at hl 2 rfl) ?_
    refine lv_if_eq (tgt := 122) hx hb dX7_lift_115 (by decide) (fun hc => ?_) (fun hc => ?_)
    · have hf := mm_if1 hc hf
      refine lv_iconst (v := 1) hx hb dX7_lift_122 (by decide) ?_
      exact J123 M19 x0 x3 x4 (1 : Int32) v21 (8 : Int32) v20 H locs ls hR hS (lv_sub hl [0, 1, 2] rfl) hf
    · have hf := mm_if0 hc hf
      refine lv_iconst (v := 0) hx hb dX7_lift_118 (by decide) ?_
      refine lv_goto (tgt := 123) hx hb dX7_lift_119 (by decide) ?_
      exact J123 M19 x0 x3 x4 (0 : Int32) v21 (8 : Int32) v20 H locs ls hR hS (lv_sub hl [0, 1, 2] rfl) hf
  have J71 : ∀ (M : mm_M) (x0 : Nat) (x3 : Int32) (y0 : Int32) (H : Heap) (locs : List Loc) (ls : Array Slot), mm_R g A M H → va_S A s.heap H locs → lv_has ls 5 [(0, .ref x0), (3, .int x3)] → ff_X7_lift_j71 M x0 x3 y0 = some (r, M2) → W p l e rm_X7_lift s m args below meth c H locs 0 0 (MQ below (mm_Ti g A r M2) args s 0 0 A) (F0 m 71 ls [.int y0]) := by
    intro M x0 x3 y0 H locs ls hR hS hl hf
    unfold ff_X7_lift_j71 at hf
    refine lv_istore (lv' := [(4, .int y0), (0, .ref x0), (3, .int x3)]) hx hb dX7_lift_71 hl (by decide) rfl (fun ls hl => ?_)
    refine lv_aload_n hx hb dX7_lift_73 rfl (lv_at hl 1 rfl) ?_
    obtain ⟨v15, ev15, hf⟩ := mm_bd hf
    refine mm_getR C hR fs_X7_7 ev15 dX7_lift_74 ?_
    refine lv_sipush (v := 308) hx hb dX7_lift_77 (by decide) ?_
    refine lv_aload_n hx hb dX7_lift_80 rfl (lv_at hl 1 rfl) ?_
    obtain ⟨v16, ev16, hf⟩ := mm_bd hf
    refine mm_getR C hR fs_X7_7 ev16 dX7_lift_81 ?_
    refine lv_sipush (v := 164) hx hb dX7_lift_84 (by decide) ?_
    refine lv_iload_n hx hb dX7_lift_87 rfl (lv_at hl 2 rfl) ?_
    refine lv_iadd hx hb dX7_lift_88 ?_
    obtain ⟨v17, ev17, hf⟩ := mm_bd hf
    refine mm_iald C hR ev17 dX7_lift_89 ?_
    refine lv_iadd hx hb dX7_lift_90 ?_
    refine lv_dup2_11 hx hb dX7_lift_91 rfl rfl ?_
    obtain ⟨v18, ev18, hf⟩ := mm_bd hf
    refine mm_iald C hR ev18 dX7_lift_92 ?_
    refine lv_iload hx hb dX7_lift_93 (lv_at hl 0 rfl) ?_
    refine lv_if_eq (tgt := 102) hx hb dX7_lift_95 (by decide) (fun hc => ?_) (fun hc => ?_)
    · have hf := mm_if1 hc hf
      refine lv_iconst (v := 0) hx hb dX7_lift_102 (by decide) ?_
      exact J103 M x0 x3 y0 (0 : Int32) v18 ((308 : Int32) + v17) v15 H locs ls hR hS (lv_sub hl [1, 2, 0] rfl) hf
    · have hf := mm_if0 hc hf
      refine lv_iconst (v := 1) hx hb dX7_lift_98 (by decide) ?_
      refine lv_goto (tgt := 103) hx hb dX7_lift_99 (by decide) ?_
      exact J103 M x0 x3 y0 (1 : Int32) v18 ((308 : Int32) + v17) v15 H locs ls hR hS (lv_sub hl [1, 2, 0] rfl) hf
  unfold ff_X7_lift at hf
  refine lv_aload_n hx hb dX7_lift_0 rfl (lv_at hl 0 rfl) ?_
  refine lv_iload_n hx hb dX7_lift_1 rfl (lv_at hl 1 rfl) ?_
  refine lv_iload_n hx hb dX7_lift_2 rfl (lv_at hl 2 rfl) ?_
  obtain ⟨u1, eu1, hf⟩ := mm_bd hf
  obtain ⟨v2, ev2, hf⟩ := mm_bd hf
  refine mm_callVi (As := [.int x1, .int x2]) (rest := []) C hR hS hl.1 vs_X7_68 eu1 (jj_X7_isCell l g A M x0 x1 x2 v2 ev2) ⟨rfl, rfl, (Nat.le_of_ble_eq_true rfl), (Nat.le_of_ble_eq_true rfl)⟩ rfl (Nat.le_of_ble_eq_true rfl) ⟨Nat.zero_le _, Nat.zero_le _⟩ rfl dX7_lift_3 (fun H locs hR hS => ?_)
  refine lv_if_ne (tgt := 11) hx hb dX7_lift_6 (by decide) (fun hc => ?_) (fun hc => ?_)
  · have hf := mm_if0 hc hf
    refine lv_iload_n hx hb dX7_lift_11 rfl (lv_at hl 1 rfl) ?_
    refine lv_iload_n hx hb dX7_lift_12 rfl (lv_at hl 2 rfl) ?_
    refine lv_aload_n hx hb dX7_lift_13 rfl (lv_at hl 0 rfl) ?_
    obtain ⟨v3, ev3, hf⟩ := mm_bd hf
    refine mm_getR C hR fs_X7_7 ev3 dX7_lift_14 ?_
    refine lv_iconst (v := 0) hx hb dX7_lift_17 (by decide) ?_
    obtain ⟨v4, ev4, hf⟩ := mm_bd hf
    refine mm_iald C hR ev4 dX7_lift_18 ?_
    refine lv_imul hx hb dX7_lift_19 ?_
    refine lv_iadd hx hb dX7_lift_20 ?_
    refine lv_istore_n (lv' := [(3, .int (x1 + (x2 * v4))), (0, .ref x0), (1, .int x1), (2, .int x2)]) hx hb dX7_lift_21 rfl hl (by decide) rfl (fun ls hl => ?_)
    refine lv_aload_n hx hb dX7_lift_22 rfl (lv_at hl 1 rfl) ?_
    obtain ⟨v5, ev5, hf⟩ := mm_bd hf
    refine mm_getR C hR fs_X7_7 ev5 dX7_lift_23 ?_
    refine lv_sipush (v := 164) hx hb dX7_lift_26 (by decide) ?_
    refine lv_iload_n hx hb dX7_lift_29 rfl (lv_at hl 0 rfl) ?_
    refine lv_iadd hx hb dX7_lift_30 ?_
    obtain ⟨v6, ev6, hf⟩ := mm_bd hf
    refine mm_iald C hR ev6 dX7_lift_31 ?_
    refine lv_iconst (v := -1) hx hb dX7_lift_32 (by decide) ?_
    refine lv_icmp_ne (tgt := 39) hx hb dX7_lift_33 (by decide) (fun hc => ?_) (fun hc => ?_)
    · have hf := mm_if0 hc hf
      refine lv_aload_n hx hb dX7_lift_39 rfl (lv_at hl 1 rfl) ?_
      obtain ⟨u7, eu7, hf⟩ := mm_bd hf
      obtain ⟨M8, eM8, hf⟩ := mm_bd hf
      refine mm_callVv (As := []) (rest := []) C hR hS hl.1 vs_X7_62 eu7 (jj_X7_keep l g A M x0 M8 eM8) ⟨rfl, rfl, (Nat.le_of_ble_eq_true rfl), (Nat.le_of_ble_eq_true rfl)⟩ rfl (Nat.le_of_ble_eq_true rfl) ⟨Nat.zero_le _, Nat.zero_le _⟩ rfl dX7_lift_40 (fun H locs hR hS => ?_)
      refine lv_aload_n hx hb dX7_lift_43 rfl (lv_at hl 1 rfl) ?_
      obtain ⟨v9, ev9, hf⟩ := mm_bd hf
      refine mm_getR C hR fs_X7_7 ev9 dX7_lift_44 ?_
      refine lv_bipush (v := 7) hx hb dX7_lift_47 (by decide) ?_
      refine lv_dup2_11 hx hb dX7_lift_49 rfl rfl ?_
      obtain ⟨v10, ev10, hf⟩ := mm_bd hf
      refine mm_iald C hR ev10 dX7_lift_50 ?_
      refine lv_iconst (v := 1) hx hb dX7_lift_51 (by decide) ?_
      refine lv_iadd hx hb dX7_lift_52 ?_
      obtain ⟨M11, eM11, hf⟩ := mm_bd hf
      refine mm_iast C hR hS eM11 dX7_lift_53 (fun H locs hR hS => ?_)
      refine lv_aload_n hx hb dX7_lift_54 rfl (lv_at hl 1 rfl) ?_
      obtain ⟨v12, ev12, hf⟩ := mm_bd hf
      refine mm_getR C hR fs_X7_7 ev12 dX7_lift_55 ?_
      refine lv_bipush (v := 7) hx hb dX7_lift_58 (by decide) ?_
      obtain ⟨v13, ev13, hf⟩ := mm_bd hf
      refine mm_iald C hR ev13 dX7_lift_60 ?_
      refine lv_iconst (v := 3) hx hb dX7_lift_61 (by decide) ?_
      obtain ⟨v14, ev14, hf⟩ := mm_bd hf
      refine mm_irem C ev14 dX7_lift_62 ?_
      refine lv_if_eq (tgt := 70) hx hb dX7_lift_63 (by decide) (fun hc => ?_) (fun hc => ?_)
      · have hf := mm_if1 hc hf
        refine lv_iconst (v := 0) hx hb dX7_lift_70 (by decide) ?_
        exact J71 M11 x0 (x1 + (x2 * v4)) (0 : Int32) H locs ls hR hS (lv_sub hl [1, 0] rfl) hf
      · have hf := mm_if0 hc hf
        refine lv_iconst (v := 1) hx hb dX7_lift_66 (by decide) ?_
        refine lv_goto (tgt := 71) hx hb dX7_lift_67 (by decide) ?_
        exact J71 M11 x0 (x1 + (x2 * v4)) (1 : Int32) H locs ls hR hS (lv_sub hl [1, 0] rfl) hf
    · have hf := mm_if1 hc hf
      refine lv_bipush (v := -2) hx hb dX7_lift_36 (by decide) ?_
      exact mm_ire C hR hS hr ((mm_pe hf).1) (mm_pe hf).2 dX7_lift_38
  · have hf := mm_if1 hc hf
    refine lv_iconst (v := -1) hx hb dX7_lift_9 (by decide) ?_
    exact mm_ire C hR hS hr ((mm_pe hf).1) (mm_pe hf).2 dX7_lift_10
def ff_X7_nearest_j49 (M : mm_M) (y0 : Int32) : Option (Int32) := if y0 = (-1 : Int32) then (some (-4 : Int32)) else (some y0)
def ff_X7_nearest (M : mm_M) (x0 : Nat) (x1 : Int32) (x2 : Int32) : Option Int32 := Option.bind (mm_ck 7 M x0) fun u1 => Option.bind (ff_X7_isCell M x0 x1 x2) fun v2 => if v2 = (0 : Int32) then (some (-1 : Int32)) else (Option.bind (mm_gR 7 M x0 0) fun v3 => Option.bind (mm_aI 0 M v3 (0 : Int32)) fun v4 => Option.bind (mm_gR 7 M x0 0) fun v5 => Option.bind (mm_aI 0 M v5 ((164 : Int32) + (x1 + (x2 * v4)))) fun v6 => if v6 = (-1 : Int32) then (Option.bind (mm_ck 7 M x0) fun u7 => Option.bind (ff_X7_wanted M x0 (x1 + (x2 * v4))) fun v8 => Option.bind (mm_ck 7 M x0) fun u9 => Option.bind (ff_X7_nearestTo M x0 v8) fun v10 => ff_X7_nearest_j49 M v10) else (ff_X7_nearest_j49 M (-1 : Int32)))
def rm_X7_nearest : Room := { frames := 5, cells := 0, slots := 0, locals := 117 }
set_option maxHeartbeats 4000000 in
set_option maxRecDepth 100000 in
theorem jj_X7_nearest (l : Launch) (g : mm_G) (A : Nat → Prop) (M : mm_M) (x0 : Nat) (x1 : Int32) (x2 : Int32) (r : Int32) (hf : ff_X7_nearest M x0 x1 x2 = some r) : Met l yX7_nearest (mm_ws yX7_nearest cX7_nearest 5 (Option.some Jvm.ClassFile.FieldType.int)) rm_X7_nearest (va_Pc [.ref x0, .int x1, .int x2] (mm_B g A M)) (mm_Ti g A r M) 0 0 A := by
  refine mm_met (g := g) (lv := [(0, .ref x0), (1, .int x1), (2, .int x2)]) (fun U h => h.2) (by decide +kernel) (Nat.le_of_ble_eq_true rfl) rfl ?_
  intro p e s m args below meth c ls C hr hnm hB hl
  obtain ⟨hR, hK⟩ := hB
  have hx := C.1
  have hb := C.2.1
  suffices hmain : ∀ (H : Heap) (locs : List Loc), mm_R g A M H → va_S A s.heap H locs → W p l e rm_X7_nearest s m args below meth c H locs 0 0 (MQ below (mm_Ti g A r M) args s 0 0 A) (F0 m 0 ls []) from hmain _ _ hR va_S.rf
  clear hR
  intro H locs hR hS
  have J49 : ∀ (y0 : Int32) (H : Heap) (locs : List Loc) (ls : Array Slot), mm_R g A M H → va_S A s.heap H locs → lv_has ls 5 [] → ff_X7_nearest_j49 M y0 = some r → W p l e rm_X7_nearest s m args below meth c H locs 0 0 (MQ below (mm_Ti g A r M) args s 0 0 A) (F0 m 49 ls [.int y0]) := by
    intro y0 H locs ls hR hS hl hf
    unfold ff_X7_nearest_j49 at hf
    refine lv_istore (lv' := [(4, .int y0)]) hx hb dX7_nearest_49 hl (by decide) rfl (fun ls hl => ?_)
    refine lv_iload hx hb dX7_nearest_51 (lv_at hl 0 rfl) ?_
    refine lv_iconst (v := -1) hx hb dX7_nearest_53 (by decide) ?_
    refine lv_icmp_ne (tgt := 62) hx hb dX7_nearest_54 (by decide) (fun hc => ?_) (fun hc => ?_)
    · have hf := mm_if0 hc hf
      refine lv_iload hx hb dX7_nearest_62 (lv_at hl 0 rfl) ?_
      exact mm_ire C hR hS hr ((Option.some.inj hf)) rfl dX7_nearest_64
    · have hf := mm_if1 hc hf
      refine lv_bipush (v := -4) hx hb dX7_nearest_57 (by decide) ?_
      refine lv_goto (tgt := 64) hx hb dX7_nearest_59 (by decide) ?_
      exact mm_ire C hR hS hr ((Option.some.inj hf)) rfl dX7_nearest_64
  unfold ff_X7_nearest at hf
  refine lv_aload_n hx hb dX7_nearest_0 rfl (lv_at hl 0 rfl) ?_
  refine lv_iload_n hx hb dX7_nearest_1 rfl (lv_at hl 1 rfl) ?_
  refine lv_iload_n hx hb dX7_nearest_2 rfl (lv_at hl 2 rfl) ?_
  obtain ⟨u1, eu1, hf⟩ := mm_bd hf
  obtain ⟨v2, ev2, hf⟩ := mm_bd hf
  refine mm_callVi (As := [.int x1, .int x2]) (rest := []) C hR hS hl.1 vs_X7_68 eu1 (jj_X7_isCell l g A M x0 x1 x2 v2 ev2) ⟨rfl, rfl, (Nat.le_of_ble_eq_true rfl), (Nat.le_of_ble_eq_true rfl)⟩ rfl (Nat.le_of_ble_eq_true rfl) ⟨Nat.zero_le _, Nat.zero_le _⟩ rfl dX7_nearest_3 (fun H locs hR hS => ?_)
  refine lv_if_ne (tgt := 11) hx hb dX7_nearest_6 (by decide) (fun hc => ?_) (fun hc => ?_)
  · have hf := mm_if0 hc hf
    refine lv_iload_n hx hb dX7_nearest_11 rfl (lv_at hl 1 rfl) ?_
    refine lv_iload_n hx hb dX7_nearest_12 rfl (lv_at hl 2 rfl) ?_
    refine lv_aload_n hx hb dX7_nearest_13 rfl (lv_at hl 0 rfl) ?_
    obtain ⟨v3, ev3, hf⟩ := mm_bd hf
    refine mm_getR C hR fs_X7_7 ev3 dX7_nearest_14 ?_
    refine lv_iconst (v := 0) hx hb dX7_nearest_17 (by decide) ?_
    obtain ⟨v4, ev4, hf⟩ := mm_bd hf
    refine mm_iald C hR ev4 dX7_nearest_18 ?_
    refine lv_imul hx hb dX7_nearest_19 ?_
    refine lv_iadd hx hb dX7_nearest_20 ?_
    refine lv_istore_n (lv' := [(3, .int (x1 + (x2 * v4))), (0, .ref x0), (1, .int x1), (2, .int x2)]) hx hb dX7_nearest_21 rfl hl (by decide) rfl (fun ls hl => ?_)
    refine lv_aload_n hx hb dX7_nearest_22 rfl (lv_at hl 1 rfl) ?_
    obtain ⟨v5, ev5, hf⟩ := mm_bd hf
    refine mm_getR C hR fs_X7_7 ev5 dX7_nearest_23 ?_
    refine lv_sipush (v := 164) hx hb dX7_nearest_26 (by decide) ?_
    refine lv_iload_n hx hb dX7_nearest_29 rfl (lv_at hl 0 rfl) ?_
    refine lv_iadd hx hb dX7_nearest_30 ?_
    obtain ⟨v6, ev6, hf⟩ := mm_bd hf
    refine mm_iald C hR ev6 dX7_nearest_31 ?_
    refine lv_iconst (v := -1) hx hb dX7_nearest_32 (by decide) ?_
    refine lv_icmp_ne (tgt := 48) hx hb dX7_nearest_33 (by decide) (fun hc => ?_) (fun hc => ?_)
    · have hf := mm_if0 hc hf
      refine lv_iconst (v := -1) hx hb dX7_nearest_48 (by decide) ?_
      exact J49 (-1 : Int32) H locs ls hR hS (lv_sub hl [] rfl) hf
    · have hf := mm_if1 hc hf
      refine lv_aload_n hx hb dX7_nearest_36 rfl (lv_at hl 1 rfl) ?_
      refine lv_aload_n hx hb dX7_nearest_37 rfl (lv_at hl 1 rfl) ?_
      refine lv_iload_n hx hb dX7_nearest_38 rfl (lv_at hl 0 rfl) ?_
      obtain ⟨u7, eu7, hf⟩ := mm_bd hf
      obtain ⟨v8, ev8, hf⟩ := mm_bd hf
      refine mm_callVi (As := [.int (x1 + (x2 * v4))]) (rest := [.ref x0]) C hR hS hl.1 vs_X7_72 eu7 (jj_X7_wanted l g A M x0 (x1 + (x2 * v4)) v8 ev8) ⟨rfl, rfl, (Nat.le_of_ble_eq_true rfl), (Nat.le_of_ble_eq_true rfl)⟩ rfl (Nat.le_of_ble_eq_true rfl) ⟨Nat.zero_le _, Nat.zero_le _⟩ rfl dX7_nearest_39 (fun H locs hR hS => ?_)
      obtain ⟨u9, eu9, hf⟩ := mm_bd hf
      obtain ⟨v10, ev10, hf⟩ := mm_bd hf
      refine mm_callVi (As := [.int v8]) (rest := []) C hR hS hl.1 vs_X7_132 eu9 (jj_X7_nearestTo l g A M x0 v8 v10 ev10) ⟨rfl, rfl, (Nat.le_of_ble_eq_true rfl), (Nat.le_of_ble_eq_true rfl)⟩ rfl (Nat.le_of_ble_eq_true rfl) ⟨Nat.zero_le _, Nat.zero_le _⟩ rfl dX7_nearest_42 (fun H locs hR hS => ?_)
      refine lv_goto (tgt := 49) hx hb dX7_nearest_45 (by decide) ?_
      exact J49 v10 H locs ls hR hS (lv_sub hl [] rfl) hf
  · have hf := mm_if1 hc hf
    refine lv_iconst (v := -1) hx hb dX7_nearest_9 (by decide) ?_
    exact mm_ire C hR hS hr ((Option.some.inj hf)) rfl dX7_nearest_10
def ff_X7_readyOf_j45 (M : mm_M) (x0 : Nat) (x1 : Int32) (x3 : Int32) (y0 : Int32) (y1 : Int32) : Option ((Int32 × Int32) ⊕ (Int32 × Int32)) := some (.inl ((y1 + y0), (x3 + (1 : Int32))))
def ff_X7_readyOf_l13 (M : mm_M) (x0 : Nat) (x1 : Int32) (x2 : Int32) (x3 : Int32) : Option ((Int32 × Int32) ⊕ (Int32 × Int32)) := Option.bind (mm_gR 7 M x0 0) fun v3 => Option.bind (mm_aI 0 M v3 (6 : Int32)) fun v4 => if v4 ≤ x3 then (some (.inr (x2, x3))) else (Option.bind (mm_ck 7 M x0) fun u5 => Option.bind (ff_X7_of M x0 x3 (1 : Int32)) fun v6 => if v6 = x1 then (Option.bind (mm_ck 7 M x0) fun u7 => Option.bind (ff_X7_still M x0 x3 (1 : Int32)) fun v8 => ff_X7_readyOf_j45 M x0 x1 x3 v8 x2) else (ff_X7_readyOf_j45 M x0 x1 x3 (0 : Int32) x2))
def ff_X7_readyOf (M : mm_M) (x0 : Nat) (x1 : Int32) : Option Int32 := Option.bind (mm_gR 7 M x0 0) fun v1 => Option.bind (mm_aI 0 M v1 ((308 : Int32) + x1)) fun v2 => Option.bind (mm_it (mm_u2 (ff_X7_readyOf_l13 M x0 x1)) mm_fu (v2, (0 : Int32))) fun e9 => mm_u2 (fun x2_10 x3_11 => some x2_10) e9
def rm_X7_readyOf : Room := { frames := 3, cells := 0, slots := 0, locals := 71 }
set_option maxHeartbeats 4000000 in
set_option maxRecDepth 100000 in
theorem jj_X7_readyOf (l : Launch) (g : mm_G) (A : Nat → Prop) (M : mm_M) (x0 : Nat) (x1 : Int32) (r : Int32) (hf : ff_X7_readyOf M x0 x1 = some r) : Met l yX7_readyOf (mm_ws yX7_readyOf cX7_readyOf 4 (Option.some Jvm.ClassFile.FieldType.int)) rm_X7_readyOf (va_Pc [.ref x0, .int x1] (mm_B g A M)) (mm_Ti g A r M) 0 0 A := by
  refine mm_met (g := g) (lv := [(0, .ref x0), (1, .int x1)]) (fun U h => h.2) (by decide +kernel) (Nat.le_of_ble_eq_true rfl) rfl ?_
  intro p e s m args below meth c ls C hr hnm hB hl
  obtain ⟨hR, hK⟩ := hB
  have hx := C.1
  have hb := C.2.1
  suffices hmain : ∀ (H : Heap) (locs : List Loc), mm_R g A M H → va_S A s.heap H locs → W p l e rm_X7_readyOf s m args below meth c H locs 0 0 (MQ below (mm_Ti g A r M) args s 0 0 A) (F0 m 0 ls []) from hmain _ _ hR va_S.rf
  clear hR
  intro H locs hR hS
  have L13 : ∀ (x0 : Nat) (x1 : Int32) (e1 : Int32 × Int32) (hX : ∀ (x2 : Int32) (x3 : Int32), e1 = (x2, x3) → ∀ (H : Heap) (locs : List Loc) (ls : Array Slot), mm_R g A M H → va_S A s.heap H locs → lv_has ls 4 [(2, .int x2)] → W p l e rm_X7_readyOf s m args below meth c H locs 0 0 (MQ below (mm_Ti g A r M) args s 0 0 A) (F0 m 53 ls [])) (n : Nat) (x2 : Int32) (x3 : Int32), mm_it (mm_u2 (ff_X7_readyOf_l13 M x0 x1)) n (x2, x3) = some e1 → ∀ (H : Heap) (locs : List Loc) (ls : Array Slot), mm_R g A M H → va_S A s.heap H locs → lv_has ls 4 [(0, .ref x0), (1, .int x1), (2, .int x2), (3, .int x3)] → W p l e rm_X7_readyOf s m args below meth c H locs 0 0 (MQ below (mm_Ti g A r M) args s 0 0 A) (F0 m 13 ls []) := by
    intro x0 x1 e1 hX n x2 x3 hit
    refine mm_itW (Hd := fun st => ∀ (H : Heap) (locs : List Loc) (ls : Array Slot), mm_R g A M H → va_S A s.heap H locs → lv_has ls 4 [(0, .ref x0), (1, .int x1), (2, .int st.1), (3, .int st.2)] → W p l e rm_X7_readyOf s m args below meth c H locs 0 0 (MQ below (mm_Ti g A r M) args s 0 0 A) (F0 m 13 ls [])) (fun st y hf hin hout => ?_) n (x2, x3) hit
    obtain ⟨x2, x3⟩ := st
    have hf := mm_u2e hf
    have J45 : ∀ (x3 : Int32) (y0 : Int32) (y1 : Int32) (H : Heap) (locs : List Loc) (ls : Array Slot), mm_R g A M H → va_S A s.heap H locs → lv_has ls 4 [(0, .ref x0), (1, .int x1), (3, .int x3)] → ff_X7_readyOf_j45 M x0 x1 x3 y0 y1 = some y → W p l e rm_X7_readyOf s m args below meth c H locs 0 0 (MQ below (mm_Ti g A r M) args s 0 0 A) (F0 m 45 ls [.int y0, .int y1]) := by
      intro x3 y0 y1 H locs ls hR hS hl hf
      unfold ff_X7_readyOf_j45 at hf
      refine lv_iadd hx hb dX7_readyOf_45 ?_
      refine lv_istore_n (lv' := [(2, .int (y1 + y0)), (0, .ref x0), (1, .int x1), (3, .int x3)]) hx hb dX7_readyOf_46 rfl hl (by decide) rfl (fun ls hl => ?_)
      refine lv_iinc (v := (x3 + (1 : Int32))) (lv' := [(3, .int (x3 + (1 : Int32))), (2, .int (y1 + y0)), (0, .ref x0), (1, .int x1)]) hx hb dX7_readyOf_47 hl (k := 3) rfl rfl (by decide) rfl (fun ls hl => ?_)
      refine lv_goto (tgt := 13) hx hb dX7_readyOf_50 (by decide) ?_
      exact hin _ (Option.some.inj hf).symm H locs ls hR hS (lv_sub hl [2, 3, 1, 0] rfl)
    intro H locs ls hR hS hl
    unfold ff_X7_readyOf_l13 at hf
    refine lv_iload_n hx hb dX7_readyOf_13 rfl (lv_at hl 3 rfl) ?_
    refine lv_aload_n hx hb dX7_readyOf_14 rfl (lv_at hl 0 rfl) ?_
    obtain ⟨v3, ev3, hf⟩ := mm_bd hf
    refine mm_getR C hR fs_X7_7 ev3 dX7_readyOf_15 ?_
    refine lv_bipush (v := 6) hx hb dX7_readyOf_18 (by decide) ?_
    obtain ⟨v4, ev4, hf⟩ := mm_bd hf
    refine mm_iald C hR ev4 dX7_readyOf_20 ?_
    refine lv_icmp_ge (tgt := 53) hx hb dX7_readyOf_21 (by decide) (fun hc => ?_) (fun hc => ?_)
    · have hf := mm_if1 hc hf
      exact hX _ _ (hout _ (Option.some.inj hf).symm).symm H locs ls hR hS (lv_sub hl [2] rfl)
    · have hf := mm_if0 hc hf
      refine lv_iload_n hx hb dX7_readyOf_24 rfl (lv_at hl 2 rfl) ?_
      refine lv_aload_n hx hb dX7_readyOf_25 rfl (lv_at hl 0 rfl) ?_
      refine lv_iload_n hx hb dX7_readyOf_26 rfl (lv_at hl 3 rfl) ?_
      refine lv_iconst (v := 1) hx hb dX7_readyOf_27 (by decide) ?_
      obtain ⟨u5, eu5, hf⟩ := mm_bd hf
      obtain ⟨v6, ev6, hf⟩ := mm_bd hf
      refine mm_callVi (As := [.int x3, .int (1 : Int32)]) (rest := [.int x2]) C hR hS hl.1 vs_X7_85 eu5 (jj_X7_of l g A M x0 x3 (1 : Int32) v6 ev6) ⟨rfl, rfl, (Nat.le_of_ble_eq_true rfl), (Nat.le_of_ble_eq_true rfl)⟩ rfl (Nat.le_of_ble_eq_true rfl) ⟨Nat.zero_le _, Nat.zero_le _⟩ rfl dX7_readyOf_28 (fun H locs hR hS => ?_)
      refine lv_iload_n hx hb dX7_readyOf_31 rfl (lv_at hl 1 rfl) ?_
      refine lv_icmp_ne (tgt := 44) hx hb dX7_readyOf_32 (by decide) (fun hc => ?_) (fun hc => ?_)
      · have hf := mm_if0 hc hf
        refine lv_iconst (v := 0) hx hb dX7_readyOf_44 (by decide) ?_
        exact J45 x3 (0 : Int32) x2 H locs ls hR hS (lv_sub hl [0, 1, 3] rfl) hf
      · have hf := mm_if1 hc hf
        refine lv_aload_n hx hb dX7_readyOf_35 rfl (lv_at hl 0 rfl) ?_
        refine lv_iload_n hx hb dX7_readyOf_36 rfl (lv_at hl 3 rfl) ?_
        refine lv_iconst (v := 1) hx hb dX7_readyOf_37 (by decide) ?_
        obtain ⟨u7, eu7, hf⟩ := mm_bd hf
        obtain ⟨v8, ev8, hf⟩ := mm_bd hf
        refine mm_callVi (As := [.int x3, .int (1 : Int32)]) (rest := [.int x2]) C hR hS hl.1 vs_X7_122 eu7 (jj_X7_still l g A M x0 x3 (1 : Int32) v8 ev8) ⟨rfl, rfl, (Nat.le_of_ble_eq_true rfl), (Nat.le_of_ble_eq_true rfl)⟩ rfl (Nat.le_of_ble_eq_true rfl) ⟨Nat.zero_le _, Nat.zero_le _⟩ rfl dX7_readyOf_38 (fun H locs hR hS => ?_)
        refine lv_goto (tgt := 45) hx hb dX7_readyOf_41 (by decide) ?_
        exact J45 x3 v8 x2 H locs ls hR hS (lv_sub hl [0, 1, 3] rfl) hf
  unfold ff_X7_readyOf at hf
  refine lv_aload_n hx hb dX7_readyOf_0 rfl (lv_at hl 0 rfl) ?_
  obtain ⟨v1, ev1, hf⟩ := mm_bd hf
  refine mm_getR C hR fs_X7_7 ev1 dX7_readyOf_1 ?_
  refine lv_sipush (v := 308) hx hb dX7_readyOf_4 (by decide) ?_
  refine lv_iload_n hx hb dX7_readyOf_7 rfl (lv_at hl 1 rfl) ?_
  refine lv_iadd hx hb dX7_readyOf_8 ?_
  obtain ⟨v2, ev2, hf⟩ := mm_bd hf
  refine mm_iald C hR ev2 dX7_readyOf_9 ?_
  refine lv_istore_n (lv' := [(2, .int v2), (0, .ref x0), (1, .int x1)]) hx hb dX7_readyOf_10 rfl hl (by decide) rfl (fun ls hl => ?_)
  refine lv_iconst (v := 0) hx hb dX7_readyOf_11 (by decide) ?_
  refine lv_istore_n (lv' := [(3, .int (0 : Int32)), (2, .int v2), (0, .ref x0), (1, .int x1)]) hx hb dX7_readyOf_12 rfl hl (by decide) rfl (fun ls hl => ?_)
  obtain ⟨e9, he9, hf⟩ := mm_bd hf
  refine L13 x0 x1 e9 (fun x2_10 x3_11 he => ?_) _ v2 (0 : Int32) he9 H locs ls hR hS (lv_sub hl [2, 3, 1, 0] rfl)
  subst he
  intro H locs ls hR hS hl
  have hf := mm_u2e hf
  refine lv_iload_n hx hb dX7_readyOf_53 rfl (lv_at hl 0 rfl) ?_
  exact mm_ire C hR hS hr ((Option.some.inj hf)) rfl dX7_readyOf_54
def ff_X7_ready (M : mm_M) (x0 : Nat) (x1 : Int32) : Option Int32 := Option.bind (ff_X7_in M x1 (0 : Int32) (99 : Int32)) fun v1 => if v1 = (0 : Int32) then (some (-1 : Int32)) else (Option.bind (mm_ck 7 M x0) fun u2 => Option.bind (ff_X7_readyOf M x0 x1) fun v3 => some v3)
def rm_X7_ready : Room := { frames := 4, cells := 0, slots := 0, locals := 94 }
set_option maxHeartbeats 4000000 in
set_option maxRecDepth 100000 in
theorem jj_X7_ready (l : Launch) (g : mm_G) (A : Nat → Prop) (M : mm_M) (x0 : Nat) (x1 : Int32) (r : Int32) (hf : ff_X7_ready M x0 x1 = some r) : Met l yX7_ready (mm_ws yX7_ready cX7_ready 2 (Option.some Jvm.ClassFile.FieldType.int)) rm_X7_ready (va_Pc [.ref x0, .int x1] (mm_B g A M)) (mm_Ti g A r M) 0 0 A := by
  refine mm_met (g := g) (lv := [(0, .ref x0), (1, .int x1)]) (fun U h => h.2) (by decide +kernel) (Nat.le_of_ble_eq_true rfl) rfl ?_
  intro p e s m args below meth c ls C hr hnm hB hl
  obtain ⟨hR, hK⟩ := hB
  have hx := C.1
  have hb := C.2.1
  suffices hmain : ∀ (H : Heap) (locs : List Loc), mm_R g A M H → va_S A s.heap H locs → W p l e rm_X7_ready s m args below meth c H locs 0 0 (MQ below (mm_Ti g A r M) args s 0 0 A) (F0 m 0 ls []) from hmain _ _ hR va_S.rf
  clear hR
  intro H locs hR hS
  unfold ff_X7_ready at hf
  refine lv_iload_n hx hb dX7_ready_0 rfl (lv_at hl 1 rfl) ?_
  refine lv_iconst (v := 0) hx hb dX7_ready_1 (by decide) ?_
  refine lv_bipush (v := 99) hx hb dX7_ready_2 (by decide) ?_
  obtain ⟨v1, ev1, hf⟩ := mm_bd hf
  refine mm_callSi (As := [.int x1, .int (0 : Int32), .int (99 : Int32)]) (rest := []) C hR hS hl.1 ss_X7_37 (jj_X7_in l g A M x1 (0 : Int32) (99 : Int32) v1 ev1) ⟨rfl, rfl, (Nat.le_of_ble_eq_true rfl), (Nat.le_of_ble_eq_true rfl)⟩ rfl (Nat.le_of_ble_eq_true rfl) ⟨Nat.zero_le _, Nat.zero_le _⟩ rfl dX7_ready_4 (fun H locs hR hS => ?_)
  refine lv_if_eq (tgt := 18) hx hb dX7_ready_7 (by decide) (fun hc => ?_) (fun hc => ?_)
  · have hf := mm_if1 hc hf
    refine lv_iconst (v := -1) hx hb dX7_ready_18 (by decide) ?_
    exact mm_ire C hR hS hr ((Option.some.inj hf)) rfl dX7_ready_19
  · have hf := mm_if0 hc hf
    refine lv_aload_n hx hb dX7_ready_10 rfl (lv_at hl 0 rfl) ?_
    refine lv_iload_n hx hb dX7_ready_11 rfl (lv_at hl 1 rfl) ?_
    obtain ⟨u2, eu2, hf⟩ := mm_bd hf
    obtain ⟨v3, ev3, hf⟩ := mm_bd hf
    refine mm_callVi (As := [.int x1]) (rest := []) C hR hS hl.1 vs_X7_144 eu2 (jj_X7_readyOf l g A M x0 x1 v3 ev3) ⟨rfl, rfl, (Nat.le_of_ble_eq_true rfl), (Nat.le_of_ble_eq_true rfl)⟩ rfl (Nat.le_of_ble_eq_true rfl) ⟨Nat.zero_le _, Nat.zero_le _⟩ rfl dX7_ready_12 (fun H locs hR hS => ?_)
    refine lv_goto (tgt := 19) hx hb dX7_ready_15 (by decide) ?_
    exact mm_ire C hR hS hr ((Option.some.inj hf)) rfl dX7_ready_19
def ff_X7_lacksOf_j41 (M : mm_M) (x0 : Nat) (x1 : Int32) (x3 : Int32) (y0 : Int32) (y1 : Int32) : Option ((Int32 × Int32) ⊕ (Int32 × Int32)) := some (.inl ((y1 + y0), (x3 + (1 : Int32))))
def ff_X7_lacksOf_j40 (M : mm_M) (x0 : Nat) (x1 : Int32) (x3 : Int32) (y0 : Int32) : Option ((Int32 × Int32) ⊕ (Int32 × Int32)) := ff_X7_lacksOf_j41 M x0 x1 x3 (0 : Int32) y0
def ff_X7_lacksOf_l4 (M : mm_M) (x0 : Nat) (x1 : Int32) (x2 : Int32) (x3 : Int32) : Option ((Int32 × Int32) ⊕ (Int32 × Int32)) := Option.bind (mm_ck 7 M x0) fun u1 => Option.bind (ff_X7_cells M x0) fun v2 => if v2 ≤ x3 then (some (.inr (x2, x3))) else (Option.bind (mm_gR 7 M x0 0) fun v3 => Option.bind (mm_aI 0 M v3 ((164 : Int32) + x3)) fun v4 => if v4 = (-1 : Int32) then (Option.bind (mm_ck 7 M x0) fun u5 => Option.bind (ff_X7_wanted M x0 x3) fun v6 => if v6 = x1 then (ff_X7_lacksOf_j41 M x0 x1 x3 (1 : Int32) x2) else (ff_X7_lacksOf_j40 M x0 x1 x3 x2)) else (ff_X7_lacksOf_j40 M x0 x1 x3 x2))
def ff_X7_lacksOf (M : mm_M) (x0 : Nat) (x1 : Int32) : Option Int32 := Option.bind (mm_it (mm_u2 (ff_X7_lacksOf_l4 M x0 x1)) mm_fu ((0 : Int32), (0 : Int32))) fun e7 => mm_u2 (fun x2_8 x3_9 => Option.bind (mm_ck 7 M x0) fun u10 => Option.bind (ff_X7_readyOf M x0 x1) fun v11 => if (0 : Int32) ≤ (x2_8 - v11) then (some (x2_8 - v11)) else (some (0 : Int32))) e7
def rm_X7_lacksOf : Room := { frames := 4, cells := 0, slots := 0, locals := 94 }
set_option maxHeartbeats 4000000 in
set_option maxRecDepth 100000 in
theorem jj_X7_lacksOf (l : Launch) (g : mm_G) (A : Nat → Prop) (M : mm_M) (x0 : Nat) (x1 : Int32) (r : Int32) (hf : ff_X7_lacksOf M x0 x1 = some r) : Met l yX7_lacksOf (mm_ws yX7_lacksOf cX7_lacksOf 4 (Option.some Jvm.ClassFile.FieldType.int)) rm_X7_lacksOf (va_Pc [.ref x0, .int x1] (mm_B g A M)) (mm_Ti g A r M) 0 0 A := by
  refine mm_met (g := g) (lv := [(0, .ref x0), (1, .int x1)]) (fun U h => h.2) (by decide +kernel) (Nat.le_of_ble_eq_true rfl) rfl ?_
  intro p e s m args below meth c ls C hr hnm hB hl
  obtain ⟨hR, hK⟩ := hB
  have hx := C.1
  have hb := C.2.1
  suffices hmain : ∀ (H : Heap) (locs : List Loc), mm_R g A M H → va_S A s.heap H locs → W p l e rm_X7_lacksOf s m args below meth c H locs 0 0 (MQ below (mm_Ti g A r M) args s 0 0 A) (F0 m 0 ls []) from hmain _ _ hR va_S.rf
  clear hR
  intro H locs hR hS
  have L4 : ∀ (x0 : Nat) (x1 : Int32) (e1 : Int32 × Int32) (hX : ∀ (x2 : Int32) (x3 : Int32), e1 = (x2, x3) → ∀ (H : Heap) (locs : List Loc) (ls : Array Slot), mm_R g A M H → va_S A s.heap H locs → lv_has ls 4 [(0, .ref x0), (1, .int x1), (2, .int x2)] → W p l e rm_X7_lacksOf s m args below meth c H locs 0 0 (MQ below (mm_Ti g A r M) args s 0 0 A) (F0 m 49 ls [])) (n : Nat) (x2 : Int32) (x3 : Int32), mm_it (mm_u2 (ff_X7_lacksOf_l4 M x0 x1)) n (x2, x3) = some e1 → ∀ (H : Heap) (locs : List Loc) (ls : Array Slot), mm_R g A M H → va_S A s.heap H locs → lv_has ls 4 [(0, .ref x0), (1, .int x1), (2, .int x2), (3, .int x3)] → W p l e rm_X7_lacksOf s m args below meth c H locs 0 0 (MQ below (mm_Ti g A r M) args s 0 0 A) (F0 m 4 ls []) := by
    intro x0 x1 e1 hX n x2 x3 hit
    refine mm_itW (Hd := fun st => ∀ (H : Heap) (locs : List Loc) (ls : Array Slot), mm_R g A M H → va_S A s.heap H locs → lv_has ls 4 [(0, .ref x0), (1, .int x1), (2, .int st.1), (3, .int st.2)] → W p l e rm_X7_lacksOf s m args below meth c H locs 0 0 (MQ below (mm_Ti g A r M) args s 0 0 A) (F0 m 4 ls [])) (fun st y hf hin hout => ?_) n (x2, x3) hit
    obtain ⟨x2, x3⟩ := st
    have hf := mm_u2e hf
    have J41 : ∀ (x3 : Int32) (y0 : Int32) (y1 : Int32) (H : Heap) (locs : List Loc) (ls : Array Slot), mm_R g A M H → va_S A s.heap H locs → lv_has ls 4 [(0, .ref x0), (1, .int x1), (3, .int x3)] → ff_X7_lacksOf_j41 M x0 x1 x3 y0 y1 = some y → W p l e rm_X7_lacksOf s m args below meth c H locs 0 0 (MQ below (mm_Ti g A r M) args s 0 0 A) (F0 m 41 ls [.int y0, .int y1]) := by
      intro x3 y0 y1 H locs ls hR hS hl hf
      unfold ff_X7_lacksOf_j41 at hf
      refine lv_iadd hx hb dX7_lacksOf_41 ?_
      refine lv_istore_n (lv' := [(2, .int (y1 + y0)), (0, .ref x0), (1, .int x1), (3, .int x3)]) hx hb dX7_lacksOf_42 rfl hl (by decide) rfl (fun ls hl => ?_)
      refine lv_iinc (v := (x3 + (1 : Int32))) (lv' := [(3, .int (x3 + (1 : Int32))), (2, .int (y1 + y0)), (0, .ref x0), (1, .int x1)]) hx hb dX7_lacksOf_43 hl (k := 3) rfl rfl (by decide) rfl (fun ls hl => ?_)
      refine lv_goto (tgt := 4) hx hb dX7_lacksOf_46 (by decide) ?_
      exact hin _ (Option.some.inj hf).symm H locs ls hR hS (lv_sub hl [2, 3, 1, 0] rfl)
    have J40 : ∀ (x3 : Int32) (y0 : Int32) (H : Heap) (locs : List Loc) (ls : Array Slot), mm_R g A M H → va_S A s.heap H locs → lv_has ls 4 [(0, .ref x0), (1, .int x1), (3, .int x3)] → ff_X7_lacksOf_j40 M x0 x1 x3 y0 = some y → W p l e rm_X7_lacksOf s m args below meth c H locs 0 0 (MQ below (mm_Ti g A r M) args s 0 0 A) (F0 m 40 ls [.int y0]) := by
      intro x3 y0 H locs ls hR hS hl hf
      unfold ff_X7_lacksOf_j40 at hf
      refine lv_iconst (v := 0) hx hb dX7_lacksOf_40 (by decide) ?_
      exact J41 x3 (0 : Int32) y0 H locs ls hR hS (lv_sub hl [0, 1, 2] rfl) hf
    intro H locs ls hR hS hl
    unfold ff_X7_lacksOf_l4 at hf
    refine lv_iload_n hx hb dX7_lacksOf_4 rfl (lv_at hl 3 rfl) ?_
    refine lv_aload_n hx hb dX7_lacksOf_5 rfl (lv_at hl 0 rfl) ?_
    obtain ⟨u1, eu1, hf⟩ := mm_bd hf
    obtain ⟨v2, ev2, hf⟩ := mm_bd hf
    refine mm_callVi (As := []) (rest := [.int x3]) C hR hS hl.1 vs_X7_41 eu1 (jj_X7_cells l g A M x0 v2 ev2) ⟨rfl, rfl, (Nat.le_of_ble_eq_true rfl), (Nat.le_of_ble_eq_true rfl)⟩ rfl (Nat.le_of_ble_eq_true rfl) ⟨Nat.zero_le _, Nat.zero_le _⟩ rfl dX7_lacksOf_6 (fun H locs hR hS => ?_)
    refine lv_icmp_ge (tgt := 49) hx hb dX7_lacksOf_9 (by decide) (fun hc => ?_) (fun hc => ?_)
    · have hf := mm_if1 hc hf
      exact hX _ _ (hout _ (Option.some.inj hf).symm).symm H locs ls hR hS (lv_sub hl [0, 1, 2] rfl)
    · have hf := mm_if0 hc hf
      refine lv_iload_n hx hb dX7_lacksOf_12 rfl (lv_at hl 2 rfl) ?_
      refine lv_aload_n hx hb dX7_lacksOf_13 rfl (lv_at hl 0 rfl) ?_
      obtain ⟨v3, ev3, hf⟩ := mm_bd hf
      refine mm_getR C hR fs_X7_7 ev3 dX7_lacksOf_14 ?_
      refine lv_sipush (v := 164) hx hb dX7_lacksOf_17 (by decide) ?_
      refine lv_iload_n hx hb dX7_lacksOf_20 rfl (lv_at hl 3 rfl) ?_
      refine lv_iadd hx hb dX7_lacksOf_21 ?_
      obtain ⟨v4, ev4, hf⟩ := mm_bd hf
      refine mm_iald C hR ev4 dX7_lacksOf_22 ?_
      refine lv_iconst (v := -1) hx hb dX7_lacksOf_23 (by decide) ?_
      refine lv_icmp_ne (tgt := 40) hx hb dX7_lacksOf_24 (by decide) (fun hc => ?_) (fun hc => ?_)
      · have hf := mm_if0 hc hf
        exact J40 x3 x2 H locs ls hR hS (lv_sub hl [0, 1, 3] rfl) hf
      · have hf := mm_if1 hc hf
        refine lv_aload_n hx hb dX7_lacksOf_27 rfl (lv_at hl 0 rfl) ?_
        refine lv_iload_n hx hb dX7_lacksOf_28 rfl (lv_at hl 3 rfl) ?_
        obtain ⟨u5, eu5, hf⟩ := mm_bd hf
        obtain ⟨v6, ev6, hf⟩ := mm_bd hf
        refine mm_callVi (As := [.int x3]) (rest := [.int x2]) C hR hS hl.1 vs_X7_72 eu5 (jj_X7_wanted l g A M x0 x3 v6 ev6) ⟨rfl, rfl, (Nat.le_of_ble_eq_true rfl), (Nat.le_of_ble_eq_true rfl)⟩ rfl (Nat.le_of_ble_eq_true rfl) ⟨Nat.zero_le _, Nat.zero_le _⟩ rfl dX7_lacksOf_29 (fun H locs hR hS => ?_)
        refine lv_iload_n hx hb dX7_lacksOf_32 rfl (lv_at hl 1 rfl) ?_
        refine lv_icmp_ne (tgt := 40) hx hb dX7_lacksOf_33 (by decide) (fun hc => ?_) (fun hc => ?_)
        · have hf := mm_if0 hc hf
          exact J40 x3 x2 H locs ls hR hS (lv_sub hl [0, 1, 3] rfl) hf
        · have hf := mm_if1 hc hf
          refine lv_iconst (v := 1) hx hb dX7_lacksOf_36 (by decide) ?_
          refine lv_goto (tgt := 41) hx hb dX7_lacksOf_37 (by decide) ?_
          exact J41 x3 (1 : Int32) x2 H locs ls hR hS (lv_sub hl [0, 1, 3] rfl) hf
  unfold ff_X7_lacksOf at hf
  refine lv_iconst (v := 0) hx hb dX7_lacksOf_0 (by decide) ?_
  refine lv_istore_n (lv' := [(2, .int (0 : Int32)), (0, .ref x0), (1, .int x1)]) hx hb dX7_lacksOf_1 rfl hl (by decide) rfl (fun ls hl => ?_)
  refine lv_iconst (v := 0) hx hb dX7_lacksOf_2 (by decide) ?_
  refine lv_istore_n (lv' := [(3, .int (0 : Int32)), (2, .int (0 : Int32)), (0, .ref x0), (1, .int x1)]) hx hb dX7_lacksOf_3 rfl hl (by decide) rfl (fun ls hl => ?_)
  obtain ⟨e7, he7, hf⟩ := mm_bd hf
  refine L4 x0 x1 e7 (fun x2_8 x3_9 he => ?_) _ (0 : Int32) (0 : Int32) he7 H locs ls hR hS (lv_sub hl [2, 3, 1, 0] rfl)
  subst he
  intro H locs ls hR hS hl
  have hf := mm_u2e hf
  refine lv_iload_n hx hb dX7_lacksOf_49 rfl (lv_at hl 2 rfl) ?_
  refine lv_aload_n hx hb dX7_lacksOf_50 rfl (lv_at hl 0 rfl) ?_
  refine lv_iload_n hx hb dX7_lacksOf_51 rfl (lv_at hl 1 rfl) ?_
  obtain ⟨u10, eu10, hf⟩ := mm_bd hf
  obtain ⟨v11, ev11, hf⟩ := mm_bd hf
  refine mm_callVi (As := [.int x1]) (rest := [.int x2_8]) C hR hS hl.1 vs_X7_144 eu10 (jj_X7_readyOf l g A M x0 x1 v11 ev11) ⟨rfl, rfl, (Nat.le_of_ble_eq_true rfl), (Nat.le_of_ble_eq_true rfl)⟩ rfl (Nat.le_of_ble_eq_true rfl) ⟨Nat.zero_le _, Nat.zero_le _⟩ rfl dX7_lacksOf_52 (fun H locs hR hS => ?_)
  refine lv_isub hx hb dX7_lacksOf_55 ?_
  refine lv_istore_n (lv' := [(2, .int (x2_8 - v11)), (0, .ref x0), (1, .int x1)]) hx hb dX7_lacksOf_56 rfl hl (by decide) rfl (fun ls hl => ?_)
  refine lv_iload_n hx hb dX7_lacksOf_57 rfl (lv_at hl 0 rfl) ?_
  refine lv_if_ge (tgt := 65) hx hb dX7_lacksOf_58 (by decide) (fun hc => ?_) (fun hc => ?_)
  · have hf := mm_if1 hc hf
    refine lv_iload_n hx hb dX7_lacksOf_65 rfl (lv_at hl 0 rfl) ?_
    exact mm_ire C hR hS hr ((Option.some.inj hf)) rfl dX7_lacksOf_66
  · have hf := mm_if0 hc hf
    refine lv_iconst (v := 0) hx hb dX7_lacksOf_61 (by decide) ?_
    refine lv_goto (tgt := 66) hx hb dX7_lacksOf_62 (by decide) ?_
    exact mm_ire C hR hS hr ((Option.some.inj hf)) rfl dX7_lacksOf_66
def ff_X7_lacks (M : mm_M) (x0 : Nat) (x1 : Int32) : Option Int32 := Option.bind (ff_X7_in M x1 (0 : Int32) (99 : Int32)) fun v1 => if v1 = (0 : Int32) then (some (-1 : Int32)) else (Option.bind (mm_ck 7 M x0) fun u2 => Option.bind (ff_X7_lacksOf M x0 x1) fun v3 => some v3)
def rm_X7_lacks : Room := { frames := 5, cells := 0, slots := 0, locals := 117 }
set_option maxHeartbeats 4000000 in
set_option maxRecDepth 100000 in
theorem jj_X7_lacks (l : Launch) (g : mm_G) (A : Nat → Prop) (M : mm_M) (x0 : Nat) (x1 : Int32) (r : Int32) (hf : ff_X7_lacks M x0 x1 = some r) : Met l yX7_lacks (mm_ws yX7_lacks cX7_lacks 2 (Option.some Jvm.ClassFile.FieldType.int)) rm_X7_lacks (va_Pc [.ref x0, .int x1] (mm_B g A M)) (mm_Ti g A r M) 0 0 A := by
  refine mm_met (g := g) (lv := [(0, .ref x0), (1, .int x1)]) (fun U h => h.2) (by decide +kernel) (Nat.le_of_ble_eq_true rfl) rfl ?_
  intro p e s m args below meth c ls C hr hnm hB hl
  obtain ⟨hR, hK⟩ := hB
  have hx := C.1
  have hb := C.2.1
  suffices hmain : ∀ (H : Heap) (locs : List Loc), mm_R g A M H → va_S A s.heap H locs → W p l e rm_X7_lacks s m args below meth c H locs 0 0 (MQ below (mm_Ti g A r M) args s 0 0 A) (F0 m 0 ls []) from hmain _ _ hR va_S.rf
  clear hR
  intro H locs hR hS
  unfold ff_X7_lacks at hf
  refine lv_iload_n hx hb dX7_lacks_0 rfl (lv_at hl 1 rfl) ?_
  refine lv_iconst (v := 0) hx hb dX7_lacks_1 (by decide) ?_
  refine lv_bipush (v := 99) hx hb dX7_lacks_2 (by decide) ?_
  obtain ⟨v1, ev1, hf⟩ := mm_bd hf
  refine mm_callSi (As := [.int x1, .int (0 : Int32), .int (99 : Int32)]) (rest := []) C hR hS hl.1 ss_X7_37 (jj_X7_in l g A M x1 (0 : Int32) (99 : Int32) v1 ev1) ⟨rfl, rfl, (Nat.le_of_ble_eq_true rfl), (Nat.le_of_ble_eq_true rfl)⟩ rfl (Nat.le_of_ble_eq_true rfl) ⟨Nat.zero_le _, Nat.zero_le _⟩ rfl dX7_lacks_4 (fun H locs hR hS => ?_)
  refine lv_if_eq (tgt := 18) hx hb dX7_lacks_7 (by decide) (fun hc => ?_) (fun hc => ?_)
  · have hf := mm_if1 hc hf
    refine lv_iconst (v := -1) hx hb dX7_lacks_18 (by decide) ?_
    exact mm_ire C hR hS hr ((Option.some.inj hf)) rfl dX7_lacks_19
  · have hf := mm_if0 hc hf
    refine lv_aload_n hx hb dX7_lacks_10 rfl (lv_at hl 0 rfl) ?_
    refine lv_iload_n hx hb dX7_lacks_11 rfl (lv_at hl 1 rfl) ?_
    obtain ⟨u2, eu2, hf⟩ := mm_bd hf
    obtain ⟨v3, ev3, hf⟩ := mm_bd hf
    refine mm_callVi (As := [.int x1]) (rest := []) C hR hS hl.1 vs_X7_147 eu2 (jj_X7_lacksOf l g A M x0 x1 v3 ev3) ⟨rfl, rfl, (Nat.le_of_ble_eq_true rfl), (Nat.le_of_ble_eq_true rfl)⟩ rfl (Nat.le_of_ble_eq_true rfl) ⟨Nat.zero_le _, Nat.zero_le _⟩ rfl dX7_lacks_12 (fun H locs hR hS => ?_)
    refine lv_goto (tgt := 19) hx hb dX7_lacks_15 (by decide) ?_
    exact mm_ire C hR hS hr ((Option.some.inj hf)) rfl dX7_lacks_19
def ff_X7_stripFor (M : mm_M) (x0 : Nat) (x1 : Int32) : Option Int32 := Option.bind (ff_X7_in M x1 (0 : Int32) (99 : Int32)) fun v1 => if v1 = (0 : Int32) then (some (-1 : Int32)) else (Option.bind (mm_ck 7 M x0) fun u2 => Option.bind (ff_X7_lacksOf M x0 x1) fun v3 => Option.bind (mm_gR 7 M x0 0) fun v4 => Option.bind (mm_aI 0 M v4 (2 : Int32)) fun v5 => Option.bind (mm_gR 7 M x0 0) fun v6 => Option.bind (mm_aI 0 M v6 (3 : Int32)) fun v7 => if v3 = (0 : Int32) then (some (0 : Int32)) else (if ((v3 * v5) + ((v3 - (1 : Int32)) * v7)) ≤ (1000 : Int32) then (if (20 : Int32) ≤ ((v3 * v5) + ((v3 - (1 : Int32)) * v7)) then (some ((v3 * v5) + ((v3 - (1 : Int32)) * v7))) else (some (20 : Int32))) else (some (-4 : Int32))))
def rm_X7_stripFor : Room := { frames := 5, cells := 0, slots := 0, locals := 117 }
set_option maxHeartbeats 4000000 in
set_option maxRecDepth 100000 in
theorem jj_X7_stripFor (l : Launch) (g : mm_G) (A : Nat → Prop) (M : mm_M) (x0 : Nat) (x1 : Int32) (r : Int32) (hf : ff_X7_stripFor M x0 x1 = some r) : Met l yX7_stripFor (mm_ws yX7_stripFor cX7_stripFor 4 (Option.some Jvm.ClassFile.FieldType.int)) rm_X7_stripFor (va_Pc [.ref x0, .int x1] (mm_B g A M)) (mm_Ti g A r M) 0 0 A := by
  refine mm_met (g := g) (lv := [(0, .ref x0), (1, .int x1)]) (fun U h => h.2) (by decide +kernel) (Nat.le_of_ble_eq_true rfl) rfl ?_
  intro p e s m args below meth c ls C hr hnm hB hl
  obtain ⟨hR, hK⟩ := hB
  have hx := C.1
  have hb := C.2.1
  suffices hmain : ∀ (H : Heap) (locs : List Loc), mm_R g A M H → va_S A s.heap H locs → W p l e rm_X7_stripFor s m args below meth c H locs 0 0 (MQ below (mm_Ti g A r M) args s 0 0 A) (F0 m 0 ls []) from hmain _ _ hR va_S.rf
  clear hR
  intro H locs hR hS
  unfold ff_X7_stripFor at hf
  refine lv_iload_n hx hb dX7_stripFor_0 rfl (lv_at hl 1 rfl) ?_
  refine lv_iconst (v := 0) hx hb dX7_stripFor_1 (by decide) ?_
  refine lv_bipush (v := 99) hx hb dX7_stripFor_2 (by decide) ?_
  obtain ⟨v1, ev1, hf⟩ := mm_bd hf
  refine mm_callSi (As := [.int x1, .int (0 : Int32), .int (99 : Int32)]) (rest := []) C hR hS hl.1 ss_X7_37 (jj_X7_in l g A M x1 (0 : Int32) (99 : Int32) v1 ev1) ⟨rfl, rfl, (Nat.le_of_ble_eq_true rfl), (Nat.le_of_ble_eq_true rfl)⟩ rfl (Nat.le_of_ble_eq_true rfl) ⟨Nat.zero_le _, Nat.zero_le _⟩ rfl dX7_stripFor_4 (fun H locs hR hS => ?_)
  refine lv_if_ne (tgt := 12) hx hb dX7_stripFor_7 (by decide) (fun hc => ?_) (fun hc => ?_)
  · have hf := mm_if0 hc hf
    refine lv_aload_n hx hb dX7_stripFor_12 rfl (lv_at hl 0 rfl) ?_
    refine lv_iload_n hx hb dX7_stripFor_13 rfl (lv_at hl 1 rfl) ?_
    obtain ⟨u2, eu2, hf⟩ := mm_bd hf
    obtain ⟨v3, ev3, hf⟩ := mm_bd hf
    refine mm_callVi (As := [.int x1]) (rest := []) C hR hS hl.1 vs_X7_147 eu2 (jj_X7_lacksOf l g A M x0 x1 v3 ev3) ⟨rfl, rfl, (Nat.le_of_ble_eq_true rfl), (Nat.le_of_ble_eq_true rfl)⟩ rfl (Nat.le_of_ble_eq_true rfl) ⟨Nat.zero_le _, Nat.zero_le _⟩ rfl dX7_stripFor_14 (fun H locs hR hS => ?_)
    refine lv_istore_n (lv' := [(2, .int v3), (0, .ref x0), (1, .int x1)]) hx hb dX7_stripFor_17 rfl hl (by decide) rfl (fun ls hl => ?_)
    refine lv_iload_n hx hb dX7_stripFor_18 rfl (lv_at hl 0 rfl) ?_
    refine lv_aload_n hx hb dX7_stripFor_19 rfl (lv_at hl 1 rfl) ?_
    obtain ⟨v4, ev4, hf⟩ := mm_bd hf
    refine mm_getR C hR fs_X7_7 ev4 dX7_stripFor_20 ?_
    refine lv_iconst (v := 2) hx hb dX7_stripFor_23 (by decide) ?_
    obtain ⟨v5, ev5, hf⟩ := mm_bd hf
    refine mm_iald C hR ev5 dX7_stripFor_24 ?_
    refine lv_imul hx hb dX7_stripFor_25 ?_
    refine lv_iload_n hx hb dX7_stripFor_26 rfl (lv_at hl 0 rfl) ?_
    refine lv_iconst (v := 1) hx hb dX7_stripFor_27 (by decide) ?_
    refine lv_isub hx hb dX7_stripFor_28 ?_
    refine lv_aload_n hx hb dX7_stripFor_29 rfl (lv_at hl 1 rfl) ?_
    obtain ⟨v6, ev6, hf⟩ := mm_bd hf
    refine mm_getR C hR fs_X7_7 ev6 dX7_stripFor_30 ?_
    refine lv_iconst (v := 3) hx hb dX7_stripFor_33 (by decide) ?_
    obtain ⟨v7, ev7, hf⟩ := mm_bd hf
    refine mm_iald C hR ev7 dX7_stripFor_34 ?_
    refine lv_imul hx hb dX7_stripFor_35 ?_
    refine lv_iadd hx hb dX7_stripFor_36 ?_
    refine lv_istore_n (lv' := [(3, .int ((v3 * v5) + ((v3 - (1 : Int32)) * v7))), (2, .int v3), (0, .ref x0), (1, .int x1)]) hx hb dX7_stripFor_37 rfl hl (by decide) rfl (fun ls hl => ?_)
    refine lv_iload_n hx hb dX7_stripFor_38 rfl (lv_at hl 1 rfl) ?_
    refine lv_if_ne (tgt := 46) hx hb dX7_stripFor_39 (by decide) (fun hc => ?_) (fun hc => ?_)
    · have hf := mm_if0 hc hf
      refine lv_iload_n hx hb dX7_stripFor_46 rfl (lv_at hl 0 rfl) ?_
      refine lv_sipush (v := 1000) hx hb dX7_stripFor_47 (by decide) ?_
      refine lv_icmp_le (tgt := 58) hx hb dX7_stripFor_50 (by decide) (fun hc => ?_) (fun hc => ?_)
      · have hf := mm_if1 hc hf
        refine lv_iload_n hx hb dX7_stripFor_58 rfl (lv_at hl 0 rfl) ?_
        refine lv_bipush (v := 20) hx hb dX7_stripFor_59 (by decide) ?_
        refine lv_icmp_ge (tgt := 69) hx hb dX7_stripFor_61 (by decide) (fun hc => ?_) (fun hc => ?_)
        · have hf := mm_if1 hc hf
          refine lv_iload_n hx hb dX7_stripFor_69 rfl (lv_at hl 0 rfl) ?_
          exact mm_ire C hR hS hr ((Option.some.inj hf)) rfl dX7_stripFor_70
        · have hf := mm_if0 hc hf
          refine lv_bipush (v := 20) hx hb dX7_stripFor_64 (by decide) ?_
          refine lv_goto (tgt := 70) hx hb dX7_stripFor_66 (by decide) ?_
          exact mm_ire C hR hS hr ((Option.some.inj hf)) rfl dX7_stripFor_70
      · have hf := mm_if0 hc hf
        refine lv_bipush (v := -4) hx hb dX7_stripFor_53 (by decide) ?_
        refine lv_goto (tgt := 70) hx hb dX7_stripFor_55 (by decide) ?_
        exact mm_ire C hR hS hr ((Option.some.inj hf)) rfl dX7_stripFor_70
    · have hf := mm_if1 hc hf
      refine lv_iconst (v := 0) hx hb dX7_stripFor_42 (by decide) ?_
      refine lv_goto (tgt := 70) hx hb dX7_stripFor_43 (by decide) ?_
      exact mm_ire C hR hS hr ((Option.some.inj hf)) rfl dX7_stripFor_70
  · have hf := mm_if1 hc hf
    refine lv_iconst (v := -1) hx hb dX7_stripFor_10 (by decide) ?_
    exact mm_ire C hR hS hr ((Option.some.inj hf)) rfl dX7_stripFor_11
def ff_X7_ifLaid (M : mm_M) (x0 : Nat) : Option ((Int32 × mm_M)) := Option.bind (mm_gR 7 M x0 0) fun v1 => Option.bind (mm_gR 7 M x0 1) fun v2 => Option.bind (ff_X7_bring M v1 (0 : Int32) v2 (0 : Int32)) fun M3 => Option.bind (mm_ck 7 M3 x0) fun u4 => Option.bind (ff_X7_laysAll M3 x0) (mm_u2 fun v5 M6 => Option.bind (mm_ck 7 M6 x0) fun u7 => Option.bind (ff_X7_differences M6 x0 (0 : Int32)) fun v8 => Option.bind (mm_gR 7 M6 x0 1) fun v9 => Option.bind (mm_gR 7 M6 x0 0) fun v10 => Option.bind (ff_X7_bring M6 v9 (0 : Int32) v10 (0 : Int32)) fun M11 => some (v8, M11))
def rm_X7_ifLaid : Room := { frames := 8, cells := 0, slots := 0, locals := 188 }
set_option maxHeartbeats 4000000 in
set_option maxRecDepth 100000 in
theorem jj_X7_ifLaid (l : Launch) (g : mm_G) (A : Nat → Prop) (M : mm_M) (x0 : Nat) (r : Int32) (M2 : mm_M) (hf : ff_X7_ifLaid M x0 = some (r, M2)) : Met l yX7_ifLaid (mm_ws yX7_ifLaid cX7_ifLaid 3 (Option.some Jvm.ClassFile.FieldType.int)) rm_X7_ifLaid (va_Pc [.ref x0] (mm_B g A M)) (mm_Ti g A r M2) 0 0 A := by
  refine mm_met (g := g) (lv := [(0, .ref x0)]) (fun U h => h.2) (by decide +kernel) (Nat.le_of_ble_eq_true rfl) rfl ?_
  intro p e s m args below meth c ls C hr hnm hB hl
  obtain ⟨hR, hK⟩ := hB
  have hx := C.1
  have hb := C.2.1
  suffices hmain : ∀ (H : Heap) (locs : List Loc), mm_R g A M H → va_S A s.heap H locs → W p l e rm_X7_ifLaid s m args below meth c H locs 0 0 (MQ below (mm_Ti g A r M2) args s 0 0 A) (F0 m 0 ls []) from hmain _ _ hR va_S.rf
  clear hR
  intro H locs hR hS
  unfold ff_X7_ifLaid at hf
  refine lv_aload_n hx hb dX7_ifLaid_0 rfl (lv_at hl 0 rfl) ?_
  obtain ⟨v1, ev1, hf⟩ := mm_bd hf
  refine mm_getR C hR fs_X7_7 ev1 dX7_ifLaid_1 ?_
  refine lv_iconst (v := 0) hx hb dX7_ifLaid_4 (by decide) ?_
  refine lv_aload_n hx hb dX7_ifLaid_5 rfl (lv_at hl 0 rfl) ?_
  obtain ⟨v2, ev2, hf⟩ := mm_bd hf
  refine mm_getR C hR fs_X7_13 ev2 dX7_ifLaid_6 ?_
  refine lv_iconst (v := 0) hx hb dX7_ifLaid_9 (by decide) ?_
  obtain ⟨M3, eM3, hf⟩ := mm_bd hf
  refine mm_callSv (As := [.ref v1, .int (0 : Int32), .ref v2, .int (0 : Int32)]) (rest := []) C hR hS hl.1 ss_X7_33 (jj_X7_bring l g A M v1 (0 : Int32) v2 (0 : Int32) M3 eM3) ⟨rfl, rfl, (Nat.le_of_ble_eq_true rfl), (Nat.le_of_ble_eq_true rfl)⟩ rfl (Nat.le_of_ble_eq_true rfl) ⟨Nat.zero_le _, Nat.zero_le _⟩ rfl dX7_ifLaid_10 (fun H locs hR hS => ?_)
  refine lv_aload_n hx hb dX7_ifLaid_13 rfl (lv_at hl 0 rfl) ?_
  obtain ⟨u4, eu4, hf⟩ := mm_bd hf
  obtain ⟨⟨v5, M6⟩, ev5, hf⟩ := mm_bd hf
  have hf := mm_u2e hf
  refine mm_callVi (As := []) (rest := []) C hR hS hl.1 vs_X7_141 eu4 (jj_X7_laysAll l g A M3 x0 v5 M6 ev5) ⟨rfl, rfl, (Nat.le_of_ble_eq_true rfl), (Nat.le_of_ble_eq_true rfl)⟩ rfl (Nat.le_of_ble_eq_true rfl) ⟨Nat.zero_le _, Nat.zero_le _⟩ rfl dX7_ifLaid_14 (fun H locs hR hS => ?_)
  refine lv_istore_n (lv' := [(1, .int v5), (0, .ref x0)]) hx hb dX7_ifLaid_17 rfl hl (by decide) rfl (fun ls hl => ?_)
  refine lv_aload_n hx hb dX7_ifLaid_18 rfl (lv_at hl 1 rfl) ?_
  refine lv_iconst (v := 0) hx hb dX7_ifLaid_19 (by decide) ?_
  obtain ⟨u7, eu7, hf⟩ := mm_bd hf
  obtain ⟨v8, ev8, hf⟩ := mm_bd hf
  refine mm_callVi (As := [.int (0 : Int32)]) (rest := []) C hR hS hl.1 vs_X7_95 eu7 (jj_X7_differences l g A M6 x0 (0 : Int32) v8 ev8) ⟨rfl, rfl, (Nat.le_of_ble_eq_true rfl), (Nat.le_of_ble_eq_true rfl)⟩ rfl (Nat.le_of_ble_eq_true rfl) ⟨Nat.zero_le _, Nat.zero_le _⟩ rfl dX7_ifLaid_20 (fun H locs hR hS => ?_)
  refine lv_istore_n (lv' := [(2, .int v8), (1, .int v5), (0, .ref x0)]) hx hb dX7_ifLaid_23 rfl hl (by decide) rfl (fun ls hl => ?_)
  refine lv_aload_n hx hb dX7_ifLaid_24 rfl (lv_at hl 2 rfl) ?_
  obtain ⟨v9, ev9, hf⟩ := mm_bd hf
  refine mm_getR C hR fs_X7_13 ev9 dX7_ifLaid_25 ?_
  refine lv_iconst (v := 0) hx hb dX7_ifLaid_28 (by decide) ?_
  refine lv_aload_n hx hb dX7_ifLaid_29 rfl (lv_at hl 2 rfl) ?_
  obtain ⟨v10, ev10, hf⟩ := mm_bd hf
  refine mm_getR C hR fs_X7_7 ev10 dX7_ifLaid_30 ?_
  refine lv_iconst (v := 0) hx hb dX7_ifLaid_33 (by decide) ?_
  obtain ⟨M11, eM11, hf⟩ := mm_bd hf
  refine mm_callSv (As := [.ref v9, .int (0 : Int32), .ref v10, .int (0 : Int32)]) (rest := []) C hR hS hl.1 ss_X7_33 (jj_X7_bring l g A M6 v9 (0 : Int32) v10 (0 : Int32) M11 eM11) ⟨rfl, rfl, (Nat.le_of_ble_eq_true rfl), (Nat.le_of_ble_eq_true rfl)⟩ rfl (Nat.le_of_ble_eq_true rfl) ⟨Nat.zero_le _, Nat.zero_le _⟩ rfl dX7_ifLaid_34 (fun H locs hR hS => ?_)
  refine lv_iload_n hx hb dX7_ifLaid_37 rfl (lv_at hl 0 rfl) ?_
  exact mm_ire C hR hS hr ((mm_pe hf).1) (mm_pe hf).2 dX7_ifLaid_38
def ff_X7_type (M : mm_M) (x0 : Nat) (x1 : Int32) : Option ((Int32 × mm_M)) := Option.bind (ff_X7_in M x1 (32 : Int32) (126 : Int32)) fun v1 => if v1 = (0 : Int32) then (some ((-1 : Int32), M)) else (Option.bind (mm_gI 7 M x0 5) fun v2 => if v2 = (80 : Int32) then (some ((-3 : Int32), M)) else (Option.bind (mm_gR 7 M x0 4) fun v3 => Option.bind (mm_gI 7 M x0 5) fun v4 => Option.bind (mm_sI 0 M v3 v4 x1) fun M5 => Option.bind (mm_gI 7 M5 x0 5) fun v6 => Option.bind (mm_pI 7 M5 x0 5 (v6 + (1 : Int32))) fun M7 => Option.bind (mm_gI 7 M7 x0 5) fun v8 => some (v8, M7)))
def rm_X7_type : Room := { frames := 1, cells := 0, slots := 0, locals := 22 }
set_option maxHeartbeats 4000000 in
set_option maxRecDepth 100000 in
theorem jj_X7_type (l : Launch) (g : mm_G) (A : Nat → Prop) (M : mm_M) (x0 : Nat) (x1 : Int32) (r : Int32) (M2 : mm_M) (hf : ff_X7_type M x0 x1 = some (r, M2)) : Met l yX7_type (mm_ws yX7_type cX7_type 2 (Option.some Jvm.ClassFile.FieldType.int)) rm_X7_type (va_Pc [.ref x0, .int x1] (mm_B g A M)) (mm_Ti g A r M2) 0 0 A := by
  refine mm_met (g := g) (lv := [(0, .ref x0), (1, .int x1)]) (fun U h => h.2) (by decide +kernel) (Nat.le_of_ble_eq_true rfl) rfl ?_
  intro p e s m args below meth c ls C hr hnm hB hl
  obtain ⟨hR, hK⟩ := hB
  have hx := C.1
  have hb := C.2.1
  suffices hmain : ∀ (H : Heap) (locs : List Loc), mm_R g A M H → va_S A s.heap H locs → W p l e rm_X7_type s m args below meth c H locs 0 0 (MQ below (mm_Ti g A r M2) args s 0 0 A) (F0 m 0 ls []) from hmain _ _ hR va_S.rf
  clear hR
  intro H locs hR hS
  unfold ff_X7_type at hf
  refine lv_iload_n hx hb dX7_type_0 rfl (lv_at hl 1 rfl) ?_
  refine lv_bipush (v := 32) hx hb dX7_type_1 (by decide) ?_
  refine lv_bipush (v := 126) hx hb dX7_type_3 (by decide) ?_
  obtain ⟨v1, ev1, hf⟩ := mm_bd hf
  refine mm_callSi (As := [.int x1, .int (32 : Int32), .int (126 : Int32)]) (rest := []) C hR hS hl.1 ss_X7_37 (jj_X7_in l g A M x1 (32 : Int32) (126 : Int32) v1 ev1) ⟨rfl, rfl, (Nat.le_of_ble_eq_true rfl), (Nat.le_of_ble_eq_true rfl)⟩ rfl (Nat.le_of_ble_eq_true rfl) ⟨Nat.zero_le _, Nat.zero_le _⟩ rfl dX7_type_5 (fun H locs hR hS => ?_)
  refine lv_if_ne (tgt := 13) hx hb dX7_type_8 (by decide) (fun hc => ?_) (fun hc => ?_)
  · have hf := mm_if0 hc hf
    refine lv_aload_n hx hb dX7_type_13 rfl (lv_at hl 0 rfl) ?_
    obtain ⟨v2, ev2, hf⟩ := mm_bd hf
    refine mm_getI C hR fs_X7_99 ev2 dX7_type_14 ?_
    refine lv_bipush (v := 80) hx hb dX7_type_17 (by decide) ?_
    refine lv_icmp_ne (tgt := 25) hx hb dX7_type_19 (by decide) (fun hc => ?_) (fun hc => ?_)
    · have hf := mm_if0 hc hf
      refine lv_aload_n hx hb dX7_type_25 rfl (lv_at hl 0 rfl) ?_
      obtain ⟨v3, ev3, hf⟩ := mm_bd hf
      refine mm_getR C hR fs_X7_19 ev3 dX7_type_26 ?_
      refine lv_aload_n hx hb dX7_type_29 rfl (lv_at hl 0 rfl) ?_
      obtain ⟨v4, ev4, hf⟩ := mm_bd hf
      refine mm_getI C hR fs_X7_99 ev4 dX7_type_30 ?_
      refine lv_iload_n hx hb dX7_type_33 rfl (lv_at hl 1 rfl) ?_
      obtain ⟨M5, eM5, hf⟩ := mm_bd hf
      refine mm_iast C hR hS eM5 dX7_type_34 (fun H locs hR hS => ?_)
      refine lv_aload_n hx hb dX7_type_35 rfl (lv_at hl 0 rfl) ?_
      refine lv_dup hx hb dX7_type_36 rfl ?_
      obtain ⟨v6, ev6, hf⟩ := mm_bd hf
      refine mm_getI C hR fs_X7_99 ev6 dX7_type_37 ?_
      refine lv_iconst (v := 1) hx hb dX7_type_40 (by decide) ?_
      refine lv_iadd hx hb dX7_type_41 ?_
      obtain ⟨M7, eM7, hf⟩ := mm_bd hf
      refine mm_putI C hR hS ps_X7_99 eM7 dX7_type_42 (fun H locs hR hS => ?_)
      refine lv_aload_n hx hb dX7_type_45 rfl (lv_at hl 0 rfl) ?_
      obtain ⟨v8, ev8, hf⟩ := mm_bd hf
      refine mm_getI C hR fs_X7_99 ev8 dX7_type_46 ?_
      exact mm_ire C hR hS hr ((mm_pe hf).1) (mm_pe hf).2 dX7_type_49
    · have hf := mm_if1 hc hf
      refine lv_bipush (v := -3) hx hb dX7_type_22 (by decide) ?_
      exact mm_ire C hR hS hr ((mm_pe hf).1) (mm_pe hf).2 dX7_type_24
  · have hf := mm_if1 hc hf
    refine lv_iconst (v := -1) hx hb dX7_type_11 (by decide) ?_
    exact mm_ire C hR hS hr ((mm_pe hf).1) (mm_pe hf).2 dX7_type_12
def ff_X7_clearText (M : mm_M) (x0 : Nat) : Option ((Int32 × mm_M)) := Option.bind (mm_gI 7 M x0 5) fun v1 => Option.bind (mm_pI 7 M x0 5 (0 : Int32)) fun M2 => some (v1, M2)
def rm_X7_clearText : Room := { frames := 0, cells := 0, slots := 0, locals := 0 }
set_option maxHeartbeats 4000000 in
set_option maxRecDepth 100000 in
theorem jj_X7_clearText (l : Launch) (g : mm_G) (A : Nat → Prop) (M : mm_M) (x0 : Nat) (r : Int32) (M2 : mm_M) (hf : ff_X7_clearText M x0 = some (r, M2)) : Met l yX7_clearText (mm_ws yX7_clearText cX7_clearText 2 (Option.some Jvm.ClassFile.FieldType.int)) rm_X7_clearText (va_Pc [.ref x0] (mm_B g A M)) (mm_Ti g A r M2) 0 0 A := by
  refine mm_met (g := g) (lv := [(0, .ref x0)]) (fun U h => h.2) (by decide +kernel) (Nat.le_of_ble_eq_true rfl) rfl ?_
  intro p e s m args below meth c ls C hr hnm hB hl
  obtain ⟨hR, hK⟩ := hB
  have hx := C.1
  have hb := C.2.1
  suffices hmain : ∀ (H : Heap) (locs : List Loc), mm_R g A M H → va_S A s.heap H locs → W p l e rm_X7_clearText s m args below meth c H locs 0 0 (MQ below (mm_Ti g A r M2) args s 0 0 A) (F0 m 0 ls []) from hmain _ _ hR va_S.rf
  clear hR
  intro H locs hR hS
  unfold ff_X7_clearText at hf
  refine lv_aload_n hx hb dX7_clearText_0 rfl (lv_at hl 0 rfl) ?_
  obtain ⟨v1, ev1, hf⟩ := mm_bd hf
  refine mm_getI C hR fs_X7_99 ev1 dX7_clearText_1 ?_
  refine lv_istore_n (lv' := [(1, .int v1), (0, .ref x0)]) hx hb dX7_clearText_4 rfl hl (by decide) rfl (fun ls hl => ?_)
  refine lv_aload_n hx hb dX7_clearText_5 rfl (lv_at hl 1 rfl) ?_
  refine lv_iconst (v := 0) hx hb dX7_clearText_6 (by decide) ?_
  obtain ⟨M2, eM2, hf⟩ := mm_bd hf
  refine mm_putI C hR hS ps_X7_99 eM2 dX7_clearText_7 (fun H locs hR hS => ?_)
  refine lv_iload_n hx hb dX7_clearText_10 rfl (lv_at hl 0 rfl) ?_
  exact mm_ire C hR hS hr ((mm_pe hf).1) (mm_pe hf).2 dX7_clearText_11
def ff_X7_faultNow_j162 (M : mm_M) (x0 : Nat) (x2 : Int32) (y0 : Int32) : Option ((Int32 × Int32 × mm_M) ⊕ ((Int32 × Int32 × mm_M) ⊕ ((Int32 × mm_M)))) := some (.inl (y0, (x2 + (1 : Int32)), M))
def ff_X7_faultNow_j151 (M : mm_M) (x0 : Nat) (x1 : Int32) (x2 : Int32) (x3 : Int32) : Option ((Int32 × Int32 × mm_M) ⊕ ((Int32 × Int32 × mm_M) ⊕ ((Int32 × mm_M)))) := if x3 = (0 : Int32) then (ff_X7_faultNow_j162 M x0 x2 (0 : Int32)) else (ff_X7_faultNow_j162 M x0 x2 (x1 + (1 : Int32)))
def ff_X7_faultNow_j140 (M : mm_M) (x0 : Nat) (x1 : Int32) (x2 : Int32) (x3 : Int32) (y0 : Int32) (y1 : Int32) (y2 : Nat) : Option ((Int32 × Int32 × mm_M) ⊕ ((Int32 × Int32 × mm_M) ⊕ ((Int32 × mm_M)))) := Option.bind (mm_gR 7 M x0 4) fun v15 => Option.bind (mm_aI 0 M v15 x2) fun v16 => Option.bind (mm_sI 0 M y2 y1 ((y0 + v16) - (48 : Int32))) fun M17 => ff_X7_faultNow_j151 M17 x0 x1 x2 x3
def ff_X7_faultNow_j104 (M : mm_M) (x0 : Nat) (x1 : Int32) (x2 : Int32) (x3 : Int32) (y0 : Int32) (y1 : Int32) (y2 : Nat) : Option ((Int32 × Int32 × mm_M) ⊕ ((Int32 × Int32 × mm_M) ⊕ ((Int32 × mm_M)))) := Option.bind (mm_pI 7 M y2 7 (y1 + y0)) fun M9 => Option.bind (mm_gR 7 M9 x0 6) fun v10 => Option.bind (mm_gI 7 M9 x0 7) fun v11 => if x1 = (0 : Int32) then (ff_X7_faultNow_j140 M9 x0 x1 x2 x3 (0 : Int32) (v11 - (1 : Int32)) v10) else (Option.bind (mm_gR 7 M9 x0 6) fun v12 => Option.bind (mm_gI 7 M9 x0 7) fun v13 => Option.bind (mm_aI 0 M9 v12 (v13 - (1 : Int32))) fun v14 => ff_X7_faultNow_j140 M9 x0 x1 x2 x3 ((10 : Int32) * v14) (v11 - (1 : Int32)) v10)
def ff_X7_faultNow_j77 (M : mm_M) (x0 : Nat) (x1 : Int32) (x2 : Int32) (x3 : Int32) (y0 : Int32) : Option ((Int32 × Int32 × mm_M) ⊕ ((Int32 × Int32 × mm_M) ⊕ ((Int32 × mm_M)))) := if y0 = (0 : Int32) then (some (.inr (.inr (x2, M)))) else (if x3 = (0 : Int32) then (ff_X7_faultNow_j151 M x0 x1 x2 x3) else (Option.bind (mm_gI 7 M x0 7) fun v8 => if x1 = (0 : Int32) then (ff_X7_faultNow_j104 M x0 x1 x2 x3 (1 : Int32) v8 x0) else (ff_X7_faultNow_j104 M x0 x1 x2 x3 (0 : Int32) v8 x0)))
def ff_X7_faultNow_j76 (M : mm_M) (x0 : Nat) (x1 : Int32) (x2 : Int32) (x3 : Int32) : Option ((Int32 × Int32 × mm_M) ⊕ ((Int32 × Int32 × mm_M) ⊕ ((Int32 × mm_M)))) := ff_X7_faultNow_j77 M x0 x1 x2 x3 (0 : Int32)
def ff_X7_faultNow_l9 (x0 : Nat) (x1 : Int32) (x2 : Int32) (M : mm_M) : Option ((Int32 × Int32 × mm_M) ⊕ ((Int32 × Int32 × mm_M) ⊕ ((Int32 × mm_M)))) := Option.bind (mm_gI 7 M x0 5) fun v2 => if v2 ≤ x2 then (some (.inr (.inl (x1, x2, M)))) else (Option.bind (mm_gR 7 M x0 4) fun v3 => Option.bind (mm_aI 0 M v3 x2) fun v4 => Option.bind (ff_X7_in M v4 (48 : Int32) (57 : Int32)) fun v5 => if v5 = (0 : Int32) then (Option.bind (mm_gR 7 M x0 4) fun v6 => Option.bind (mm_aI 0 M v6 x2) fun v7 => if v7 = (44 : Int32) then (if x1 ≤ (0 : Int32) then (ff_X7_faultNow_j76 M x0 x1 x2 v5) else (Option.bind (mm_gI 7 M x0 7) fun v18 => if (8 : Int32) ≤ v18 then (ff_X7_faultNow_j76 M x0 x1 x2 v5) else (ff_X7_faultNow_j77 M x0 x1 x2 v5 (1 : Int32)))) else (ff_X7_faultNow_j76 M x0 x1 x2 v5)) else (if (2 : Int32) ≤ x1 then (ff_X7_faultNow_j77 M x0 x1 x2 v5 (0 : Int32)) else (ff_X7_faultNow_j77 M x0 x1 x2 v5 (1 : Int32))))
def ff_X7_faultNow (M : mm_M) (x0 : Nat) : Option ((Int32 × mm_M)) := Option.bind (mm_pI 7 M x0 7 (0 : Int32)) fun M1 => Option.bind (mm_it (mm_u3 (ff_X7_faultNow_l9 x0)) mm_fu ((0 : Int32), (0 : Int32), M1)) fun e19 => Sum.elim (mm_u3 (fun x1_20 x2_21 M22 => if x1_20 = (0 : Int32) then (Option.bind (mm_gI 7 M22 x0 5) fun v23 => some (v23, M22)) else (some ((-1 : Int32), M22)))) some e19
def rm_X7_faultNow : Room := { frames := 1, cells := 0, slots := 0, locals := 22 }
set_option maxHeartbeats 4000000 in
set_option maxRecDepth 100000 in
theorem jj_X7_faultNow (l : Launch) (g : mm_G) (A : Nat → Prop) (M : mm_M) (x0 : Nat) (r : Int32) (M2 : mm_M) (hf : ff_X7_faultNow M x0 = some (r, M2)) : Met l yX7_faultNow (mm_ws yX7_faultNow cX7_faultNow 5 (Option.some Jvm.ClassFile.FieldType.int)) rm_X7_faultNow (va_Pc [.ref x0] (mm_B g A M)) (mm_Ti g A r M2) 0 0 A := by
  refine mm_met (g := g) (lv := [(0, .ref x0)]) (fun U h => h.2) (by decide +kernel) (Nat.le_of_ble_eq_true rfl) rfl ?_
  intro p e s m args below meth c ls C hr hnm hB hl
  obtain ⟨hR, hK⟩ := hB
  have hx := C.1
  have hb := C.2.1
  suffices hmain : ∀ (H : Heap) (locs : List Loc), mm_R g A M H → va_S A s.heap H locs → W p l e rm_X7_faultNow s m args below meth c H locs 0 0 (MQ below (mm_Ti g A r M2) args s 0 0 A) (F0 m 0 ls []) from hmain _ _ hR va_S.rf
  clear hR
  intro H locs hR hS
  have L9 : ∀ (x0 : Nat) (e1 : (Int32 × Int32 × mm_M) ⊕ ((Int32 × mm_M))) (hX : ∀ (x1 : Int32) (x2 : Int32) (M : mm_M), e1 = .inl (x1, x2, M) → ∀ (H : Heap) (locs : List Loc) (ls : Array Slot), mm_R g A M H → va_S A s.heap H locs → lv_has ls 5 [(0, .ref x0), (1, .int x1)] → W p l e rm_X7_faultNow s m args below meth c H locs 0 0 (MQ below (mm_Ti g A r M2) args s 0 0 A) (F0 m 169 ls [])) (hY : ∀ (v : Int32) (M9 : mm_M), e1 = .inr (v, M9) → v = r ∧ M9 = M2) (n : Nat) (x1 : Int32) (x2 : Int32) (M : mm_M), mm_it (mm_u3 (ff_X7_faultNow_l9 x0)) n (x1, x2, M) = some e1 → ∀ (H : Heap) (locs : List Loc) (ls : Array Slot), mm_R g A M H → va_S A s.heap H locs → lv_has ls 5 [(0, .ref x0), (1, .int x1), (2, .int x2)] → W p l e rm_X7_faultNow s m args below meth c H locs 0 0 (MQ below (mm_Ti g A r M2) args s 0 0 A) (F0 m 9 ls []) := by
    intro x0 e1 hX hY n x1 x2 M hit
    refine mm_itW (Hd := fun st => ∀ (H : Heap) (locs : List Loc) (ls : Array Slot), mm_R g A st.2.2 H → va_S A s.heap H locs → lv_has ls 5 [(0, .ref x0), (1, .int st.1), (2, .int st.2.1)] → W p l e rm_X7_faultNow s m args below meth c H locs 0 0 (MQ below (mm_Ti g A r M2) args s 0 0 A) (F0 m 9 ls [])) (fun st y hf hin hout => ?_) n (x1, x2, M) hit
    obtain ⟨x1, x2, M⟩ := st
    have hf := mm_u3e hf
    have J162 : ∀ (M : mm_M) (x2 : Int32) (y0 : Int32) (H : Heap) (locs : List Loc) (ls : Array Slot), mm_R g A M H → va_S A s.heap H locs → lv_has ls 5 [(0, .ref x0), (2, .int x2)] → ff_X7_faultNow_j162 M x0 x2 y0 = some y → W p l e rm_X7_faultNow s m args below meth c H locs 0 0 (MQ below (mm_Ti g A r M2) args s 0 0 A) (F0 m 162 ls [.int y0]) := by
      intro M x2 y0 H locs ls hR hS hl hf
      unfold ff_X7_faultNow_j162 at hf
      refine lv_istore_n (lv' := [(1, .int y0), (0, .ref x0), (2, .int x2)]) hx hb dX7_faultNow_162 rfl hl (by decide) rfl (fun ls hl => ?_)
      refine lv_iinc (v := (x2 + (1 : Int32))) (lv' := [(2, .int (x2 + (1 : Int32))), (1, .int y0), (0, .ref x0)]) hx hb dX7_faultNow_163 hl (k := 2) rfl rfl (by decide) rfl (fun ls hl => ?_)
      refine lv_goto (tgt := 9) hx hb dX7_faultNow_166 (by decide) ?_
      exact hin _ (Option.some.inj hf).symm H locs ls hR hS (lv_sub hl [2, 1, 0] rfl)
    have J151 : ∀ (M : mm_M) (x1 : Int32) (x2 : Int32) (x3 : Int32) (H : Heap) (locs : List Loc) (ls : Array Slot), mm_R g A M H → va_S A s.heap H locs → lv_has ls 5 [(0, .ref x0), (1, .int x1), (2, .int x2), (3, .int x3)] → ff_X7_faultNow_j151 M x0 x1 x2 x3 = some y → W p l e rm_X7_faultNow s m args below meth c H locs 0 0 (MQ below (mm_Ti g A r M2) args s 0 0 A) (F0 m 151 ls []) := by
      intro M x1 x2 x3 H locs ls hR hS hl hf
      unfold ff_X7_faultNow_j151 at hf
      refine lv_iload_n hx hb dX7_faultNow_151 rfl (lv_at hl 3 rfl) ?_
      refine lv_if_eq (tgt := 161) hx hb dX7_faultNow_152 (by decide) (fun hc => ?_) (fun hc => ?_)
      · have hf := mm_if1 hc hf
        refine lv_iconst (v := 0) hx hb dX7_faultNow_161 (by decide) ?_
        exact J162 M x2 (0 : Int32) H locs ls hR hS (lv_sub hl [0, 2] rfl) hf
      · have hf := mm_if0 hc hf
        refine lv_iload_n hx hb dX7_faultNow_155 rfl (lv_at hl 1 rfl) ?_
        refine lv_iconst (v := 1) hx hb dX7_faultNow_156 (by decide) ?_
        refine lv_iadd hx hb dX7_faultNow_157 ?_
        refine lv_goto (tgt := 162) hx hb dX7_faultNow_158 (by decide) ?_
        exact J162 M x2 (x1 + (1 : Int32)) H locs ls hR hS (lv_sub hl [0, 2] rfl) hf
    have J140 : ∀ (M : mm_M) (x1 : Int32) (x2 : Int32) (x3 : Int32) (y0 : Int32) (y1 : Int32) (y2 : Nat) (H : Heap) (locs : List Loc) (ls : Array Slot), mm_R g A M H → va_S A s.heap H locs → lv_has ls 5 [(0, .ref x0), (1, .int x1), (2, .int x2), (3, .int x3)] → ff_X7_faultNow_j140 M x0 x1 x2 x3 y0 y1 y2 = some y → W p l e rm_X7_faultNow s m args below meth c H locs 0 0 (MQ below (mm_Ti g A r M2) args s 0 0 A) (F0 m 140 ls [.int y0, .int y1, .ref y2]) := by
      intro M x1 x2 x3 y0 y1 y2 H locs ls hR hS hl hf
      unfold ff_X7_faultNow_j140 at hf
      refine lv_aload_n hx hb dX7_faultNow_140 rfl (lv_at hl 0 rfl) ?_
      obtain ⟨v15, ev15, hf⟩ := mm_bd hf
      refine mm_getR C hR fs_X7_19 ev15 dX7_faultNow_141 ?_
      refine lv_iload_n hx hb dX7_faultNow_144 rfl (lv_at hl 2 rfl) ?_
      obtain ⟨v16, ev16, hf⟩ := mm_bd hf
      refine mm_iald C hR ev16 dX7_faultNow_145 ?_
      refine lv_iadd hx hb dX7_faultNow_146 ?_
      refine lv_bipush (v := 48) hx hb dX7_faultNow_147 (by decide) ?_
      refine lv_isub hx hb dX7_faultNow_149 ?_
      obtain ⟨M17, eM17, hf⟩ := mm_bd hf
      refine mm_iast C hR hS eM17 dX7_faultNow_150 (fun H locs hR hS => ?_)
      exact J151 M17 x1 x2 x3 H locs ls hR hS (lv_sub hl [0, 1, 2, 3] rfl) hf
    have J104 : ∀ (M : mm_M) (x1 : Int32) (x2 : Int32) (x3 : Int32) (y0 : Int32) (y1 : Int32) (y2 : Nat) (H : Heap) (locs : List Loc) (ls : Array Slot), mm_R g A M H → va_S A s.heap H locs → lv_has ls 5 [(0, .ref x0), (1, .int x1), (2, .int x2), (3, .int x3)] → ff_X7_faultNow_j104 M x0 x1 x2 x3 y0 y1 y2 = some y → W p l e rm_X7_faultNow s m args below meth c H locs 0 0 (MQ below (mm_Ti g A r M2) args s 0 0 A) (F0 m 104 ls [.int y0, .int y1, .ref y2]) := by
      intro M x1 x2 x3 y0 y1 y2 H locs ls hR hS hl hf
      unfold ff_X7_faultNow_j104 at hf
      refine lv_iadd hx hb dX7_faultNow_104 ?_
      obtain ⟨M9, eM9, hf⟩ := mm_bd hf
      refine mm_putI C hR hS ps_X7_150 eM9 dX7_faultNow_105 (fun H locs hR hS => ?_)
      refine lv_aload_n hx hb dX7_faultNow_108 rfl (lv_at hl 0 rfl) ?_
      obtain ⟨v10, ev10, hf⟩ := mm_bd hf
      refine mm_getR C hR fs_X7_22 ev10 dX7_faultNow_109 ?_
      refine lv_aload_n hx hb dX7_faultNow_112 rfl (lv_at hl 0 rfl) ?_
      obtain ⟨v11, ev11, hf⟩ := mm_bd hf
      refine mm_getI C hR fs_X7_150 ev11 dX7_faultNow_113 ?_
      refine lv_iconst (v := 1) hx hb dX7_faultNow_116 (by decide) ?_
      refine lv_isub hx hb dX7_faultNow_117 ?_
      refine lv_iload_n hx hb dX7_faultNow_118 rfl (lv_at hl 1 rfl) ?_
      refine lv_if_ne (tgt := 126) hx hb dX7_faultNow_119 (by decide) (fun hc => ?_) (fun hc => ?_)
      · have hf := mm_if0 hc hf
        refine lv_bipush (v := 10) hx hb dX7_faultNow_126 (by decide) ?_
        refine lv_aload_n hx hb dX7_faultNow_128 rfl (lv_at hl 0 rfl) ?_
        obtain ⟨v12, ev12, hf⟩ := mm_bd hf
        refine mm_getR C hR fs_X7_22 ev12 dX7_faultNow_129 ?_
        refine lv_aload_n hx hb dX7_faultNow_132 rfl (lv_at hl 0 rfl) ?_
        obtain ⟨v13, ev13, hf⟩ := mm_bd hf
        refine mm_getI C hR fs_X7_150 ev13 dX7_faultNow_133 ?_
        refine lv_iconst (v := 1) hx hb dX7_faultNow_136 (by decide) ?_
        refine lv_isub hx hb dX7_faultNow_137 ?_
        obtain ⟨v14, ev14, hf⟩ := mm_bd hf
        refine mm_iald C hR ev14 dX7_faultNow_138 ?_
        refine lv_imul hx hb dX7_faultNow_139 ?_
        exact J140 M9 x1 x2 x3 ((10 : Int32) * v14) (v11 - (1 : Int32)) v10 H locs ls hR hS (lv_sub hl [0, 1, 2, 3] rfl) hf
      · have hf := mm_if1 hc hf
        refine lv_iconst (v := 0) hx hb dX7_faultNow_122 (by decide) ?_
        refine lv_goto (tgt := 140) hx hb dX7_faultNow_123 (by decide) ?_
        exact J140 M9 x1 x2 x3 (0 : Int32) (v11 - (1 : Int32)) v10 H locs ls hR hS (lv_sub hl [0, 1, 2, 3] rfl) hf
    have J77 : ∀ (M : mm_M) (x1 : Int32) (x2 : Int32) (x3 : Int32) (y0 : Int32) (H : Heap) (locs : List Loc) (ls : Array Slot), mm_R g A M H → va_S A s.heap H locs → lv_has ls 5 [(0, .ref x0), (1, .int x1), (2, .int x2), (3, .int x3)] → ff_X7_faultNow_j77 M x0 x1 x2 x3 y0 = some y → W p l e rm_X7_faultNow s m args below meth c H locs 0 0 (MQ below (mm_Ti g A r M2) args s 0 0 A) (F0 m 77 ls [.int y0]) := by
      intro M x1 x2 x3 y0 H locs ls hR hS hl hf
      unfold ff_X7_faultNow_j77 at hf
      refine lv_istore (lv' := [(4, .int y0), (0, .ref x0), (1, .int x1), (2, .int x2), (3, .int x3)]) hx hb dX7_faultNow_77 hl (by decide) rfl (fun ls hl => ?_)
      refine lv_iload hx hb dX7_faultNow_79 (lv_at hl 0 rfl) ?_
      refine lv_if_ne (tgt := 86) hx hb dX7_faultNow_81 (by decide) (fun hc => ?_) (fun hc => ?_)
      · have hf := mm_if0 hc hf
        refine lv_iload_n hx hb dX7_faultNow_86 rfl (lv_at hl 4 rfl) ?_
        refine lv_if_eq (tgt := 151) hx hb dX7_faultNow_87 (by decide) (fun hc => ?_) (fun hc => ?_)
        · have hf := mm_if1 hc hf
          exact J151 M x1 x2 x3 H locs ls hR hS (lv_sub hl [1, 2, 3, 4] rfl) hf
        · have hf := mm_if0 hc hf
          refine lv_aload_n hx hb dX7_faultNow_90 rfl (lv_at hl 1 rfl) ?_
          refine lv_dup hx hb dX7_faultNow_91 rfl ?_
          obtain ⟨v8, ev8, hf⟩ := mm_bd hf
          refine mm_getI C hR fs_X7_150 ev8 dX7_faultNow_92 ?_
          refine lv_iload_n hx hb dX7_faultNow_95 rfl (lv_at hl 2 rfl) ?_
          refine lv_if_ne (tgt := 103) hx hb dX7_faultNow_96 (by decide) (fun hc => ?_) (fun hc => ?_)
          · have hf := mm_if0 hc hf
            refine lv_iconst (v := 0) hx hb dX7_faultNow_103 (by decide) ?_
            exact J104 M x1 x2 x3 (0 : Int32) v8 x0 H locs ls hR hS (lv_sub hl [1, 2, 3, 4] rfl) hf
          · have hf := mm_if1 hc hf
            refine lv_iconst (v := 1) hx hb dX7_faultNow_99 (by decide) ?_
            refine lv_goto (tgt := 104) hx hb dX7_faultNow_100 (by decide) ?_
            exact J104 M x1 x2 x3 (1 : Int32) v8 x0 H locs ls hR hS (lv_sub hl [1, 2, 3, 4] rfl) hf
      · have hf := mm_if1 hc hf
        refine lv_iload_n hx hb dX7_faultNow_84 rfl (lv_at hl 3 rfl) ?_
        exact mm_ire C hR hS hr ((hY _ _ (hout _ (Option.some.inj hf).symm).symm).1) (hY _ _ (hout _ (Option.some.inj hf).symm).symm).2 dX7_faultNow_85
    have J76 : ∀ (M : mm_M) (x1 : Int32) (x2 : Int32) (x3 : Int32) (H : Heap) (locs : List Loc) (ls : Array Slot), mm_R g A M H → va_S A s.heap H locs → lv_has ls 5 [(0, .ref x0), (1, .int x1), (2, .int x2), (3, .int x3)] → ff_X7_faultNow_j76 M x0 x1 x2 x3 = some y → W p l e rm_X7_faultNow s m args below meth c H locs 0 0 (MQ below (mm_Ti g A r M2) args s 0 0 A) (F0 m 76 ls []) := by
      intro M x1 x2 x3 H locs ls hR hS hl hf
      unfold ff_X7_faultNow_j76 at hf
      refine lv_iconst (v := 0) hx hb dX7_faultNow_76 (by decide) ?_
      exact J77 M x1 x2 x3 (0 : Int32) H locs ls hR hS (lv_sub hl [0, 1, 2, 3] rfl) hf
    intro H locs ls hR hS hl
    unfold ff_X7_faultNow_l9 at hf
    refine lv_iload_n hx hb dX7_faultNow_9 rfl (lv_at hl 2 rfl) ?_
    refine lv_aload_n hx hb dX7_faultNow_10 rfl (lv_at hl 0 rfl) ?_
    obtain ⟨v2, ev2, hf⟩ := mm_bd hf
    refine mm_getI C hR fs_X7_99 ev2 dX7_faultNow_11 ?_
    refine lv_icmp_ge (tgt := 169) hx hb dX7_faultNow_14 (by decide) (fun hc => ?_) (fun hc => ?_)
    · have hf := mm_if1 hc hf
      exact hX _ _ _ (hout _ (Option.some.inj hf).symm).symm H locs ls hR hS (lv_sub hl [0, 1] rfl)
    · have hf := mm_if0 hc hf
      refine lv_aload_n hx hb dX7_faultNow_17 rfl (lv_at hl 0 rfl) ?_
      obtain ⟨v3, ev3, hf⟩ := mm_bd hf
      refine mm_getR C hR fs_X7_19 ev3 dX7_faultNow_18 ?_
      refine lv_iload_n hx hb dX7_faultNow_21 rfl (lv_at hl 2 rfl) ?_
      obtain ⟨v4, ev4, hf⟩ := mm_bd hf
      refine mm_iald C hR ev4 dX7_faultNow_22 ?_
      refine lv_bipush (v := 48) hx hb dX7_faultNow_23 (by decide) ?_
      refine lv_bipush (v := 57) hx hb dX7_faultNow_25 (by decide) ?_
      obtain ⟨v5, ev5, hf⟩ := mm_bd hf
      refine mm_callSi (As := [.int v4, .int (48 : Int32), .int (57 : Int32)]) (rest := []) C hR hS hl.1 ss_X7_37 (jj_X7_in l g A M v4 (48 : Int32) (57 : Int32) v5 ev5) ⟨rfl, rfl, (Nat.le_of_ble_eq_true rfl), (Nat.le_of_ble_eq_true rfl)⟩ rfl (Nat.le_of_ble_eq_true rfl) ⟨Nat.zero_le _, Nat.zero_le _⟩ rfl dX7_faultNow_27 (fun H locs hR hS => ?_)
      refine lv_istore_n (lv' := [(3, .int v5), (0, .ref x0), (1, .int x1), (2, .int x2)]) hx hb dX7_faultNow_30 rfl hl (by decide) rfl (fun ls hl => ?_)
      refine lv_iload_n hx hb dX7_faultNow_31 rfl (lv_at hl 0 rfl) ?_
      refine lv_if_eq (tgt := 48) hx hb dX7_faultNow_32 (by decide) (fun hc => ?_) (fun hc => ?_)
      · have hf := mm_if1 hc hf
        refine lv_aload_n hx hb dX7_faultNow_48 rfl (lv_at hl 1 rfl) ?_
        obtain ⟨v6, ev6, hf⟩ := mm_bd hf
        refine mm_getR C hR fs_X7_19 ev6 dX7_faultNow_49 ?_
        refine lv_iload_n hx hb dX7_faultNow_52 rfl (lv_at hl 3 rfl) ?_
        obtain ⟨v7, ev7, hf⟩ := mm_bd hf
        refine mm_iald C hR ev7 dX7_faultNow_53 ?_
        refine lv_bipush (v := 44) hx hb dX7_faultNow_54 (by decide) ?_
        refine lv_icmp_ne (tgt := 76) hx hb dX7_faultNow_56 (by decide) (fun hc => ?_) (fun hc => ?_)
        · have hf := mm_if0 hc hf
          exact J76 M x1 x2 v5 H locs ls hR hS (lv_sub hl [1, 2, 3, 0] rfl) hf
        · have hf := mm_if1 hc hf
          refine lv_iload_n hx hb dX7_faultNow_59 rfl (lv_at hl 2 rfl) ?_
          refine lv_if_le (tgt := 76) hx hb dX7_faultNow_60 (by decide) (fun hc => ?_) (fun hc => ?_)
          · have hf := mm_if1 hc hf
            exact J76 M x1 x2 v5 H locs ls hR hS (lv_sub hl [1, 2, 3, 0] rfl) hf
          · have hf := mm_if0 hc hf
            refine lv_aload_n hx hb dX7_faultNow_63 rfl (lv_at hl 1 rfl) ?_
            obtain ⟨v18, ev18, hf⟩ := mm_bd hf
            refine mm_getI C hR fs_X7_150 ev18 dX7_faultNow_64 ?_
            refine lv_bipush (v := 8) hx hb dX7_faultNow_67 (by decide) ?_
            refine lv_icmp_ge (tgt := 76) hx hb dX7_faultNow_69 (by decide) (fun hc => ?_) (fun hc => ?_)
            · have hf := mm_if1 hc hf
              exact J76 M x1 x2 v5 H locs ls hR hS (lv_sub hl [1, 2, 3, 0] rfl) hf
            · have hf := mm_if0 hc hf
              refine lv_iconst (v := 1) hx hb dX7_faultNow_72 (by decide) ?_
              refine lv_goto (tgt := 77) hx hb dX7_faultNow_73 (by decide) ?_
              exact J77 M x1 x2 v5 (1 : Int32) H locs ls hR hS (lv_sub hl [1, 2, 3, 0] rfl) hf
      · have hf := mm_if0 hc hf
        refine lv_iload_n hx hb dX7_faultNow_35 rfl (lv_at hl 2 rfl) ?_
        refine lv_iconst (v := 2) hx hb dX7_faultNow_36 (by decide) ?_
        refine lv_icmp_ge (tgt := 44) hx hb dX7_faultNow_37 (by decide) (fun hc => ?_) (fun hc => ?_)
        · have hf := mm_if1 hc hf
          refine lv_iconst (v := 0) hx hb dX7_faultNow_44 (by decide) ?_
          refine lv_goto (tgt := 77) hx hb dX7_faultNow_45 (by decide) ?_
          exact J77 M x1 x2 v5 (0 : Int32) H locs ls hR hS (lv_sub hl [1, 2, 3, 0] rfl) hf
        · have hf := mm_if0 hc hf
          refine lv_iconst (v := 1) hx hb dX7_faultNow_40 (by decide) ?_
          refine lv_goto (tgt := 77) hx hb dX7_faultNow_41 (by decide) ?_
          exact J77 M x1 x2 v5 (1 : Int32) H locs ls hR hS (lv_sub hl [1, 2, 3, 0] rfl) hf
  unfold ff_X7_faultNow at hf
  refine lv_aload_n hx hb dX7_faultNow_0 rfl (lv_at hl 0 rfl) ?_
  refine lv_iconst (v := 0) hx hb dX7_faultNow_1 (by decide) ?_
  obtain ⟨M1, eM1, hf⟩ := mm_bd hf
  refine mm_putI C hR hS ps_X7_150 eM1 dX7_faultNow_2 (fun H locs hR hS => ?_)
  refine lv_iconst (v := 0) hx hb dX7_faultNow_5 (by decide) ?_
  refine lv_istore_n (lv' := [(1, .int (0 : Int32)), (0, .ref x0)]) hx hb dX7_faultNow_6 rfl hl (by decide) rfl (fun ls hl => ?_)
  refine lv_iconst (v := 0) hx hb dX7_faultNow_7 (by decide) ?_
  refine lv_istore_n (lv' := [(2, .int (0 : Int32)), (1, .int (0 : Int32)), (0, .ref x0)]) hx hb dX7_faultNow_8 rfl hl (by decide) rfl (fun ls hl => ?_)
  obtain ⟨e19, he19, hf⟩ := mm_bd hf
  refine L9 x0 e19 (fun x1_20 x2_21 M22 he => ?_) (fun v M9 he => by subst he; exact mm_pe (mm_sr hf)) _ (0 : Int32) (0 : Int32) M1 he19 H locs ls hR hS (lv_sub hl [2, 1, 0] rfl)
  subst he
  intro H locs ls hR hS hl
  have hf := mm_sl hf
  have hf := mm_u3e hf
  refine lv_iload_n hx hb dX7_faultNow_169 rfl (lv_at hl 1 rfl) ?_
  refine lv_if_ne (tgt := 180) hx hb dX7_faultNow_170 (by decide) (fun hc => ?_) (fun hc => ?_)
  · have hf := mm_if0 hc hf
    refine lv_iconst (v := -1) hx hb dX7_faultNow_180 (by decide) ?_
    exact mm_ire C hR hS hr ((mm_pe hf).1) (mm_pe hf).2 dX7_faultNow_181
  · have hf := mm_if1 hc hf
    refine lv_aload_n hx hb dX7_faultNow_173 rfl (lv_at hl 0 rfl) ?_
    obtain ⟨v23, ev23, hf⟩ := mm_bd hf
    refine mm_getI C hR fs_X7_99 ev23 dX7_faultNow_174 ?_
    refine lv_goto (tgt := 181) hx hb dX7_faultNow_177 (by decide) ?_
    exact mm_ire C hR hS hr ((mm_pe hf).1) (mm_pe hf).2 dX7_faultNow_181
def ff_X7_fault (M : mm_M) (x0 : Nat) : Option ((Int32 × mm_M)) := Option.bind (mm_ck 7 M x0) fun u1 => Option.bind (ff_X7_faultNow M x0) (mm_u2 fun v2 M3 => if v2 = (-1 : Int32) then (some ((-4 : Int32), M3)) else (some (v2, M3)))
def rm_X7_fault : Room := { frames := 2, cells := 0, slots := 0, locals := 46 }
set_option maxHeartbeats 4000000 in
set_option maxRecDepth 100000 in
theorem jj_X7_fault (l : Launch) (g : mm_G) (A : Nat → Prop) (M : mm_M) (x0 : Nat) (r : Int32) (M2 : mm_M) (hf : ff_X7_fault M x0 = some (r, M2)) : Met l yX7_fault (mm_ws yX7_fault cX7_fault 2 (Option.some Jvm.ClassFile.FieldType.int)) rm_X7_fault (va_Pc [.ref x0] (mm_B g A M)) (mm_Ti g A r M2) 0 0 A := by
  refine mm_met (g := g) (lv := [(0, .ref x0)]) (fun U h => h.2) (by decide +kernel) (Nat.le_of_ble_eq_true rfl) rfl ?_
  intro p e s m args below meth c ls C hr hnm hB hl
  obtain ⟨hR, hK⟩ := hB
  have hx := C.1
  have hb := C.2.1
  suffices hmain : ∀ (H : Heap) (locs : List Loc), mm_R g A M H → va_S A s.heap H locs → W p l e rm_X7_fault s m args below meth c H locs 0 0 (MQ below (mm_Ti g A r M2) args s 0 0 A) (F0 m 0 ls []) from hmain _ _ hR va_S.rf
  clear hR
  intro H locs hR hS
  unfold ff_X7_fault at hf
  refine lv_aload_n hx hb dX7_fault_0 rfl (lv_at hl 0 rfl) ?_
  obtain ⟨u1, eu1, hf⟩ := mm_bd hf
  obtain ⟨⟨v2, M3⟩, ev2, hf⟩ := mm_bd hf
  have hf := mm_u2e hf
  refine mm_callVi (As := []) (rest := []) C hR hS hl.1 vs_X7_153 eu1 (jj_X7_faultNow l g A M x0 v2 M3 ev2) ⟨rfl, rfl, (Nat.le_of_ble_eq_true rfl), (Nat.le_of_ble_eq_true rfl)⟩ rfl (Nat.le_of_ble_eq_true rfl) ⟨Nat.zero_le _, Nat.zero_le _⟩ rfl dX7_fault_1 (fun H locs hR hS => ?_)
  refine lv_istore_n (lv' := [(1, .int v2), (0, .ref x0)]) hx hb dX7_fault_4 rfl hl (by decide) rfl (fun ls hl => ?_)
  refine lv_iload_n hx hb dX7_fault_5 rfl (lv_at hl 0 rfl) ?_
  refine lv_iconst (v := -1) hx hb dX7_fault_6 (by decide) ?_
  refine lv_icmp_ne (tgt := 15) hx hb dX7_fault_7 (by decide) (fun hc => ?_) (fun hc => ?_)
  · have hf := mm_if0 hc hf
    refine lv_iload_n hx hb dX7_fault_15 rfl (lv_at hl 0 rfl) ?_
    exact mm_ire C hR hS hr ((mm_pe hf).1) (mm_pe hf).2 dX7_fault_16
  · have hf := mm_if1 hc hf
    refine lv_bipush (v := -4) hx hb dX7_fault_10 (by decide) ?_
    refine lv_goto (tgt := 16) hx hb dX7_fault_12 (by decide) ?_
    exact mm_ire C hR hS hr ((mm_pe hf).1) (mm_pe hf).2 dX7_fault_16
def ff_X7_pattern_j66 (M : mm_M) (x0 : Nat) (x1 : Int32) (y0 : Int32) (y1 : Int32) (y2 : Nat) : Option ((Int32 × mm_M) ⊕ (Int32 × mm_M)) := Option.bind (mm_sI 0 M y2 y1 y0) fun M13 => some (.inl ((x1 + (1 : Int32)), M13))
def ff_X7_pattern_l34 (x0 : Nat) (x1 : Int32) (M : mm_M) : Option ((Int32 × mm_M) ⊕ (Int32 × mm_M)) := if (8 : Int32) ≤ x1 then (some (.inr (x1, M))) else (Option.bind (mm_gR 7 M x0 0) fun v11 => Option.bind (mm_gI 7 M x0 7) fun v12 => if v12 ≤ x1 then (ff_X7_pattern_j66 M x0 x1 (0 : Int32) ((12 : Int32) + x1) v11) else (Option.bind (mm_gR 7 M x0 6) fun v14 => Option.bind (mm_aI 0 M v14 x1) fun v15 => ff_X7_pattern_j66 M x0 x1 v15 ((12 : Int32) + x1) v11))
def ff_X7_pattern (M : mm_M) (x0 : Nat) : Option ((Int32 × mm_M)) := Option.bind (mm_ck 7 M x0) fun u1 => Option.bind (ff_X7_faultNow M x0) (mm_u2 fun v2 M3 => if v2 = (-1 : Int32) then (Option.bind (mm_ck 7 M3 x0) fun u4 => Option.bind (ff_X7_laidCells M3 x0) fun v5 => if v5 ≤ (0 : Int32) then (Option.bind (mm_ck 7 M3 x0) fun u6 => Option.bind (ff_X7_keep M3 x0) fun M7 => Option.bind (mm_gR 7 M7 x0 0) fun v8 => Option.bind (mm_gI 7 M7 x0 7) fun v9 => Option.bind (mm_sI 0 M7 v8 (4 : Int32) v9) fun M10 => Option.bind (mm_it (mm_u2 (ff_X7_pattern_l34 x0)) mm_fu ((0 : Int32), M10)) fun e16 => mm_u2 (fun x1_17 M18 => Option.bind (mm_gI 7 M18 x0 7) fun v19 => some (v19, M18)) e16) else (some ((-2 : Int32), M3))) else (some ((-2 : Int32), M3)))
def rm_X7_pattern : Room := { frames := 2, cells := 0, slots := 0, locals := 46 }
set_option maxHeartbeats 4000000 in
set_option maxRecDepth 100000 in
theorem jj_X7_pattern (l : Launch) (g : mm_G) (A : Nat → Prop) (M : mm_M) (x0 : Nat) (r : Int32) (M2 : mm_M) (hf : ff_X7_pattern M x0 = some (r, M2)) : Met l yX7_pattern (mm_ws yX7_pattern cX7_pattern 2 (Option.some Jvm.ClassFile.FieldType.int)) rm_X7_pattern (va_Pc [.ref x0] (mm_B g A M)) (mm_Ti g A r M2) 0 0 A := by
  refine mm_met (g := g) (lv := [(0, .ref x0)]) (fun U h => h.2) (by decide +kernel) (Nat.le_of_ble_eq_true rfl) rfl ?_
  intro p e s m args below meth c ls C hr hnm hB hl
  obtain ⟨hR, hK⟩ := hB
  have hx := C.1
  have hb := C.2.1
  suffices hmain : ∀ (H : Heap) (locs : List Loc), mm_R g A M H → va_S A s.heap H locs → W p l e rm_X7_pattern s m args below meth c H locs 0 0 (MQ below (mm_Ti g A r M2) args s 0 0 A) (F0 m 0 ls []) from hmain _ _ hR va_S.rf
  clear hR
  intro H locs hR hS
  have L34 : ∀ (x0 : Nat) (e1 : Int32 × mm_M) (hX : ∀ (x1 : Int32) (M : mm_M), e1 = (x1, M) → ∀ (H : Heap) (locs : List Loc) (ls : Array Slot), mm_R g A M H → va_S A s.heap H locs → lv_has ls 2 [(0, .ref x0)] → W p l e rm_X7_pattern s m args below meth c H locs 0 0 (MQ below (mm_Ti g A r M2) args s 0 0 A) (F0 m 73 ls [])) (n : Nat) (x1 : Int32) (M : mm_M), mm_it (mm_u2 (ff_X7_pattern_l34 x0)) n (x1, M) = some e1 → ∀ (H : Heap) (locs : List Loc) (ls : Array Slot), mm_R g A M H → va_S A s.heap H locs → lv_has ls 2 [(0, .ref x0), (1, .int x1)] → W p l e rm_X7_pattern s m args below meth c H locs 0 0 (MQ below (mm_Ti g A r M2) args s 0 0 A) (F0 m 34 ls []) := by
    intro x0 e1 hX n x1 M hit
    refine mm_itW (Hd := fun st => ∀ (H : Heap) (locs : List Loc) (ls : Array Slot), mm_R g A st.2 H → va_S A s.heap H locs → lv_has ls 2 [(0, .ref x0), (1, .int st.1)] → W p l e rm_X7_pattern s m args below meth c H locs 0 0 (MQ below (mm_Ti g A r M2) args s 0 0 A) (F0 m 34 ls [])) (fun st y hf hin hout => ?_) n (x1, M) hit
    obtain ⟨x1, M⟩ := st
    have hf := mm_u2e hf
    have J66 : ∀ (M : mm_M) (x1 : Int32) (y0 : Int32) (y1 : Int32) (y2 : Nat) (H : Heap) (locs : List Loc) (ls : Array Slot), mm_R g A M H → va_S A s.heap H locs → lv_has ls 2 [(0, .ref x0), (1, .int x1)] → ff_X7_pattern_j66 M x0 x1 y0 y1 y2 = some y → W p l e rm_X7_pattern s m args below meth c H locs 0 0 (MQ below (mm_Ti g A r M2) args s 0 0 A) (F0 m 66 ls [.int y0, .int y1, .ref y2]) := by
      intro M x1 y0 y1 y2 H locs ls hR hS hl hf
      unfold ff_X7_pattern_j66 at hf
      obtain ⟨M13, eM13, hf⟩ := mm_bd hf
      refine mm_iast C hR hS eM13 dX7_pattern_66 (fun H locs hR hS => ?_)
      refine lv_iinc (v := (x1 + (1 : Int32))) (lv' := [(1, .int (x1 + (1 : Int32))), (0, .ref x0)]) hx hb dX7_pattern_67 hl (k := 1) rfl rfl (by decide) rfl (fun ls hl => ?_)
      refine lv_goto (tgt := 34) hx hb dX7_pattern_70 (by decide) ?_
      exact hin _ (Option.some.inj hf).symm H locs ls hR hS (lv_sub hl [1, 0] rfl)
    intro H locs ls hR hS hl
    unfold ff_X7_pattern_l34 at hf
    refine lv_iload_n hx hb dX7_pattern_34 rfl (lv_at hl 1 rfl) ?_
    refine lv_bipush (v := 8) hx hb dX7_pattern_35 (by decide) ?_
    refine lv_icmp_ge (tgt := 73) hx hb dX7_pattern_37 (by decide) (fun hc => ?_) (fun hc => ?_)
    · have hf := mm_if1 hc hf
      exact hX _ _ (hout _ (Option.some.inj hf).symm).symm H locs ls hR hS (lv_sub hl [0] rfl)
    · have hf := mm_if0 hc hf
      refine lv_aload_n hx hb dX7_pattern_40 rfl (lv_at hl 0 rfl) ?_
      obtain ⟨v11, ev11, hf⟩ := mm_bd hf
      refine mm_getR C hR fs_X7_7 ev11 dX7_pattern_41 ?_
      refine lv_bipush (v := 12) hx hb dX7_pattern_44 (by decide) ?_
      refine lv_iload_n hx hb dX7_pattern_46 rfl (lv_at hl 1 rfl) ?_
      refine lv_iadd hx hb dX7_pattern_47 ?_
      refine lv_iload_n hx hb dX7_pattern_48 rfl (lv_at hl 1 rfl) ?_
      refine lv_aload_n hx hb dX7_pattern_49 rfl (lv_at hl 0 rfl) ?_
      obtain ⟨v12, ev12, hf⟩ := mm_bd hf
      refine mm_getI C hR fs_X7_150 ev12 dX7_pattern_50 ?_
      refine lv_icmp_ge (tgt := 65) hx hb dX7_pattern_53 (by decide) (fun hc => ?_) (fun hc => ?_)
      · have hf := mm_if1 hc hf
        refine lv_iconst (v := 0) hx hb dX7_pattern_65 (by decide) ?_
        exact J66 M x1 (0 : Int32) ((12 : Int32) + x1) v11 H locs ls hR hS (lv_sub hl [0, 1] rfl) hf
      · have hf := mm_if0 hc hf
        refine lv_aload_n hx hb dX7_pattern_56 rfl (lv_at hl 0 rfl) ?_
        obtain ⟨v14, ev14, hf⟩ := mm_bd hf
        refine mm_getR C hR fs_X7_22 ev14 dX7_pattern_57 ?_
        refine lv_iload_n hx hb dX7_pattern_60 rfl (lv_at hl 1 rfl) ?_
        obtain ⟨v15, ev15, hf⟩ := mm_bd hf
        refine mm_iald C hR ev15 dX7_pattern_61 ?_
        refine lv_goto (tgt := 66) hx hb dX7_pattern_62 (by decide) ?_
        exact J66 M x1 v15 ((12 : Int32) + x1) v11 H locs ls hR hS (lv_sub hl [0, 1] rfl) hf
  unfold ff_X7_pattern at hf
  refine lv_aload_n hx hb dX7_pattern_0 rfl (lv_at hl 0 rfl) ?_
  obtain ⟨u1, eu1, hf⟩ := mm_bd hf
  obtain ⟨⟨v2, M3⟩, ev2, hf⟩ := mm_bd hf
  have hf := mm_u2e hf
  refine mm_callVi (As := []) (rest := []) C hR hS hl.1 vs_X7_153 eu1 (jj_X7_faultNow l g A M x0 v2 M3 ev2) ⟨rfl, rfl, (Nat.le_of_ble_eq_true rfl), (Nat.le_of_ble_eq_true rfl)⟩ rfl (Nat.le_of_ble_eq_true rfl) ⟨Nat.zero_le _, Nat.zero_le _⟩ rfl dX7_pattern_1 (fun H locs hR hS => ?_)
  refine lv_iconst (v := -1) hx hb dX7_pattern_4 (by decide) ?_
  refine lv_icmp_ne (tgt := 15) hx hb dX7_pattern_5 (by decide) (fun hc => ?_) (fun hc => ?_)
  · have hf := mm_if0 hc hf
    refine lv_bipush (v := -2) hx hb dX7_pattern_15 (by decide) ?_
    exact mm_ire C hR hS hr ((mm_pe hf).1) (mm_pe hf).2 dX7_pattern_17
  · have hf := mm_if1 hc hf
    refine lv_aload_n hx hb dX7_pattern_8 rfl (lv_at hl 0 rfl) ?_
    obtain ⟨u4, eu4, hf⟩ := mm_bd hf
    obtain ⟨v5, ev5, hf⟩ := mm_bd hf
    refine mm_callVi (As := []) (rest := []) C hR hS hl.1 vs_X7_59 eu4 (jj_X7_laidCells l g A M3 x0 v5 ev5) ⟨rfl, rfl, (Nat.le_of_ble_eq_true rfl), (Nat.le_of_ble_eq_true rfl)⟩ rfl (Nat.le_of_ble_eq_true rfl) ⟨Nat.zero_le _, Nat.zero_le _⟩ rfl dX7_pattern_9 (fun H locs hR hS => ?_)
    refine lv_if_le (tgt := 18) hx hb dX7_pattern_12 (by decide) (fun hc => ?_) (fun hc => ?_)
    · have hf := mm_if1 hc hf
      refine lv_aload_n hx hb dX7_pattern_18 rfl (lv_at hl 0 rfl) ?_
      obtain ⟨u6, eu6, hf⟩ := mm_bd hf
      obtain ⟨M7, eM7, hf⟩ := mm_bd hf
      refine mm_callVv (As := []) (rest := []) C hR hS hl.1 vs_X7_62 eu6 (jj_X7_keep l g A M3 x0 M7 eM7) ⟨rfl, rfl, (Nat.le_of_ble_eq_true rfl), (Nat.le_of_ble_eq_true rfl)⟩ rfl (Nat.le_of_ble_eq_true rfl) ⟨Nat.zero_le _, Nat.zero_le _⟩ rfl dX7_pattern_19 (fun H locs hR hS => ?_)
      refine lv_aload_n hx hb dX7_pattern_22 rfl (lv_at hl 0 rfl) ?_
      obtain ⟨v8, ev8, hf⟩ := mm_bd hf
      refine mm_getR C hR fs_X7_7 ev8 dX7_pattern_23 ?_
      refine lv_iconst (v := 4) hx hb dX7_pattern_26 (by decide) ?_
      refine lv_aload_n hx hb dX7_pattern_27 rfl (lv_at hl 0 rfl) ?_
      obtain ⟨v9, ev9, hf⟩ := mm_bd hf
      refine mm_getI C hR fs_X7_150 ev9 dX7_pattern_28 ?_
      obtain ⟨M10, eM10, hf⟩ := mm_bd hf
      refine mm_iast C hR hS eM10 dX7_pattern_31 (fun H locs hR hS => ?_)
      refine lv_iconst (v := 0) hx hb dX7_pattern_32 (by decide) ?_
      refine lv_istore_n (lv' := [(1, .int (0 : Int32)), (0, .ref x0)]) hx hb dX7_pattern_33 rfl hl (by decide) rfl (fun ls hl => ?_)
      obtain ⟨e16, he16, hf⟩ := mm_bd hf
      refine L34 x0 e16 (fun x1_17 M18 he => ?_) _ (0 : Int32) M10 he16 H locs ls hR hS (lv_sub hl [1, 0] rfl)
      subst he
      intro H locs ls hR hS hl
      have hf := mm_u2e hf
      refine lv_aload_n hx hb dX7_pattern_73 rfl (lv_at hl 0 rfl) ?_
      obtain ⟨v19, ev19, hf⟩ := mm_bd hf
      refine mm_getI C hR fs_X7_150 ev19 dX7_pattern_74 ?_
      exact mm_ire C hR hS hr ((mm_pe hf).1) (mm_pe hf).2 dX7_pattern_77
    · have hf := mm_if0 hc hf
      refine lv_bipush (v := -2) hx hb dX7_pattern_15 (by decide) ?_
      exact mm_ire C hR hS hr ((mm_pe hf).1) (mm_pe hf).2 dX7_pattern_17
