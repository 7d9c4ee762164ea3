def ff_X7_beginWith_l16 (x0 : Nat) (x3 : Int32) (M : mm_M) : Option ((Int32 × mm_M) ⊕ (Int32 × mm_M)) := if (144 : Int32) ≤ x3 then (some (.inr (x3, M))) else (Option.bind (mm_gR 7 M x0 0) fun v5 => Option.bind (mm_sI 0 M v5 ((20 : Int32) + x3) (50 : Int32)) fun M6 => Option.bind (mm_gR 7 M6 x0 0) fun v7 => Option.bind (mm_sI 0 M6 v7 ((164 : Int32) + x3) (-1 : Int32)) fun M8 => some (.inl ((x3 + (1 : Int32)), M8)))
def ff_X7_beginWith (M : mm_M) (x0 : Nat) (x1 : Int32) (x2 : Int32) : Option mm_M := Option.bind (mm_gR 7 M x0 0) fun v1 => Option.bind (mm_sI 0 M v1 (0 : Int32) x1) fun M2 => Option.bind (mm_gR 7 M2 x0 0) fun v3 => Option.bind (mm_sI 0 M2 v3 (1 : Int32) x2) fun M4 => Option.bind (mm_it (mm_u2 (ff_X7_beginWith_l16 x0)) mm_fu ((0 : Int32), M4)) fun e9 => mm_u2 (fun x3_10 M11 => some M11) e9
def rm_X7_beginWith : Room := { frames := 0, cells := 0, slots := 0, locals := 0 }
set_option maxHeartbeats 4000000 in
set_option maxRecDepth 100000 in
theorem jj_X7_beginWith (l : Launch) (g : mm_G) (A : Nat → Prop) (M : mm_M) (x0 : Nat) (x1 : Int32) (x2 : Int32) (M2 : mm_M) (hf : ff_X7_beginWith M x0 x1 x2 = some M2) : Met l yX7_beginWith (mm_ws yX7_beginWith cX7_beginWith 4 (Option.none : Option Jvm.ClassFile.FieldType)) rm_X7_beginWith (va_Pc [.ref x0, .int x1, .int x2] (mm_B g A M)) (mm_Tv g A M2) 0 0 A := by
  refine mm_met (g := g) (lv := [(0, .ref x0), (1, .int x1), (2, .int x2)]) (fun U h => h.2) (by decide +kernel) (Nat.le_of_ble_eq_true rfl) rfl ?_
  intro p e s m args below meth c ls C hr hnm hB hl
  obtain ⟨hR, hK⟩ := hB
  have hx := C.1
  have hb := C.2.1
  suffices hmain : ∀ (H : Heap) (locs : List Loc), mm_R g A M H → va_S A s.heap H locs → W p l e rm_X7_beginWith s m args below meth c H locs 0 0 (MQ below (mm_Tv g A M2) args s 0 0 A) (F0 m 0 ls []) from hmain _ _ hR va_S.rf
  clear hR
  intro H locs hR hS
  have L16 : ∀ (x0 : Nat) (e1 : Int32 × mm_M) (hX : ∀ (x3 : Int32) (M : mm_M), e1 = (x3, M) → ∀ (H : Heap) (locs : List Loc) (ls : Array Slot), mm_R g A M H → va_S A s.heap H locs → lv_has ls 4 [] → W p l e rm_X7_beginWith s m args below meth c H locs 0 0 (MQ below (mm_Tv g A M2) args s 0 0 A) (F0 m 51 ls [])) (n : Nat) (x3 : Int32) (M : mm_M), mm_it (mm_u2 (ff_X7_beginWith_l16 x0)) n (x3, M) = some e1 → ∀ (H : Heap) (locs : List Loc) (ls : Array Slot), mm_R g A M H → va_S A s.heap H locs → lv_has ls 4 [(0, .ref x0), (3, .int x3)] → W p l e rm_X7_beginWith s m args below meth c H locs 0 0 (MQ below (mm_Tv g A M2) args s 0 0 A) (F0 m 16 ls []) := by
    intro x0 e1 hX n x3 M hit
    refine mm_itW (Hd := fun st => ∀ (H : Heap) (locs : List Loc) (ls : Array Slot), mm_R g A st.2 H → va_S A s.heap H locs → lv_has ls 4 [(0, .ref x0), (3, .int st.1)] → W p l e rm_X7_beginWith s m args below meth c H locs 0 0 (MQ below (mm_Tv g A M2) args s 0 0 A) (F0 m 16 ls [])) (fun st y hf hin hout => ?_) n (x3, M) hit
    obtain ⟨x3, M⟩ := st
    have hf := mm_u2e hf
    intro H locs ls hR hS hl
    unfold ff_X7_beginWith_l16 at hf
    refine lv_iload_n hx hb dX7_beginWith_16 rfl (lv_at hl 1 rfl) ?_
    refine lv_sipush (v := 144) hx hb dX7_beginWith_17 (by decide) ?_
    refine lv_icmp_ge (tgt := 51) hx hb dX7_beginWith_20 (by decide) (fun hc => ?_) (fun hc => ?_)
    · have hf := mm_if1 hc hf
      exact hX _ _ (hout _ (Option.some.inj hf).symm).symm H locs ls hR hS (lv_sub hl [] rfl)
    · have hf := mm_if0 hc hf
      refine lv_aload_n hx hb dX7_beginWith_23 rfl (lv_at hl 0 rfl) ?_
      obtain ⟨v5, ev5, hf⟩ := mm_bd hf
      refine mm_getR C hR fs_X7_7 ev5 dX7_beginWith_24 ?_
      refine lv_bipush (v := 20) hx hb dX7_beginWith_27 (by decide) ?_
      refine lv_iload_n hx hb dX7_beginWith_29 rfl (lv_at hl 1 rfl) ?_
      refine lv_iadd hx hb dX7_beginWith_30 ?_
      refine lv_bipush (v := 50) hx hb dX7_beginWith_31 (by decide) ?_
      obtain ⟨M6, eM6, hf⟩ := mm_bd hf
      refine mm_iast C hR hS eM6 dX7_beginWith_33 (fun H locs hR hS => ?_)
      refine lv_aload_n hx hb dX7_beginWith_34 rfl (lv_at hl 0 rfl) ?_
      obtain ⟨v7, ev7, hf⟩ := mm_bd hf
      refine mm_getR C hR fs_X7_7 ev7 dX7_beginWith_35 ?_
      refine lv_sipush (v := 164) hx hb dX7_beginWith_38 (by decide) ?_
      refine lv_iload_n hx hb dX7_beginWith_41 rfl (lv_at hl 1 rfl) ?_
      refine lv_iadd hx hb dX7_beginWith_42 ?_
      refine lv_iconst (v := -1) hx hb dX7_beginWith_43 (by decide) ?_
      obtain ⟨M8, eM8, hf⟩ := mm_bd hf
      refine mm_iast C hR hS eM8 dX7_beginWith_44 (fun H locs hR hS => ?_)
      refine lv_iinc (v := (x3 + (1 : Int32))) (lv' := [(3, .int (x3 + (1 : Int32))), (0, .ref x0)]) hx hb dX7_beginWith_45 hl (k := 1) rfl rfl (by decide) rfl (fun ls hl => ?_)
      refine lv_goto (tgt := 16) hx hb dX7_beginWith_48 (by decide) ?_
      exact hin _ (Option.some.inj hf).symm H locs ls hR hS (lv_sub hl [1, 0] rfl)
  unfold ff_X7_beginWith at hf
  refine lv_aload_n hx hb dX7_beginWith_0 rfl (lv_at hl 0 rfl) ?_
  obtain ⟨v1, ev1, hf⟩ := mm_bd hf
  refine mm_getR C hR fs_X7_7 ev1 dX7_beginWith_1 ?_
  refine lv_iconst (v := 0) hx hb dX7_beginWith_4 (by decide) ?_
  refine lv_iload_n hx hb dX7_beginWith_5 rfl (lv_at hl 1 rfl) ?_
  obtain ⟨M2, eM2, hf⟩ := mm_bd hf
  refine mm_iast C hR hS eM2 dX7_beginWith_6 (fun H locs hR hS => ?_)
  refine lv_aload_n hx hb dX7_beginWith_7 rfl (lv_at hl 0 rfl) ?_
  obtain ⟨v3, ev3, hf⟩ := mm_bd hf
  refine mm_getR C hR fs_X7_7 ev3 dX7_beginWith_8 ?_
  refine lv_iconst (v := 1) hx hb dX7_beginWith_11 (by decide) ?_
  refine lv_iload_n hx hb dX7_beginWith_12 rfl (lv_at hl 2 rfl) ?_
  obtain ⟨M4, eM4, hf⟩ := mm_bd hf
  refine mm_iast C hR hS eM4 dX7_beginWith_13 (fun H locs hR hS => ?_)
  refine lv_iconst (v := 0) hx hb dX7_beginWith_14 (by decide) ?_
  refine lv_istore_n (lv' := [(3, .int (0 : Int32)), (0, .ref x0), (1, .int x1), (2, .int x2)]) hx hb dX7_beginWith_15 rfl hl (by decide) rfl (fun ls hl => ?_)
  obtain ⟨e9, he9, hf⟩ := mm_bd hf
  refine L16 x0 e9 (fun x3_10 M11 he => ?_) _ (0 : Int32) M4 he9 H locs ls hR hS (lv_sub hl [1, 0] rfl)
  subst he
  intro H locs ls hR hS hl
  have hf := mm_u2e hf
  exact mm_vre C hR hS hr (Option.some.inj hf) dX7_beginWith_51
def ff_X7_init (sz : Nat) (M : mm_M) (x0 : Nat) : Option mm_M := Option.bind (mm_nI 0 518 sz M) fun M1 => Option.bind (mm_pR 7 M1 x0 0 sz) fun M2 => Option.bind (mm_nI 0 518 (sz + 1) M2) fun M3 => Option.bind (mm_pR 7 M3 x0 1 (sz + 1)) fun M4 => Option.bind (mm_nI 0 2590 (sz + 2) M4) fun M5 => Option.bind (mm_pR 7 M5 x0 2 (sz + 2)) fun M6 => Option.bind (mm_nI 0 80 (sz + 3) M6) fun M7 => Option.bind (mm_pR 7 M7 x0 4 (sz + 3)) fun M8 => Option.bind (mm_nI 0 8 (sz + 4) M8) fun M9 => Option.bind (mm_pR 7 M9 x0 6 (sz + 4)) fun M10 => Option.bind (mm_gR 7 M10 x0 0) fun v11 => Option.bind (mm_sI 0 M10 v11 (2 : Int32) (20 : Int32)) fun M12 => Option.bind (mm_gR 7 M12 x0 0) fun v13 => Option.bind (mm_sI 0 M12 v13 (3 : Int32) (2 : Int32)) fun M14 => Option.bind (mm_gR 7 M14 x0 0) fun v15 => Option.bind (mm_sI 0 M14 v15 (4 : Int32) (1 : Int32)) fun M16 => Option.bind (mm_ck 7 M16 x0) fun u17 => Option.bind (ff_X7_beginWith M16 x0 (6 : Int32) (4 : Int32)) fun M18 => some M18
def rm_X7_init : Room := { frames := 1, cells := 5, slots := 3714, locals := 23 }
set_option maxHeartbeats 4000000 in
set_option maxRecDepth 100000 in
theorem jj_X7_init (l : Launch) (g : mm_G) (A : Nat → Prop) (sz : Nat) (hAn : ∀ q, sz ≤ q → A q) (M : mm_M) (x0 : Nat) (M2 : mm_M) (hf : ff_X7_init sz M x0 = some M2) : Met l yX7_init (mm_ws yX7_init cX7_init 1 (Option.none : Option Jvm.ClassFile.FieldType)) rm_X7_init (va_Pc [.ref x0] (fun U => U.heap.size = sz ∧ mm_B g A M U)) (mm_Tz g A M2 (sz + 5)) 5 3714 A := by
  refine mm_met (g := g) (lv := [(0, .ref x0)]) (fun U h => h.2.2) (by decide +kernel) (Nat.le_of_ble_eq_true rfl) rfl ?_
  intro p e s m args below meth c ls C hr hnm hB hl
  obtain ⟨hs0, hR, hK⟩ := hB
  have hz : sz ≤ s.heap.size := Nat.le_of_eq hs0.symm
  have hx := C.1
  have hb := C.2.1
  suffices hmain : ∀ (H : Heap) (locs : List Loc), mm_R g A M H → va_S A s.heap H locs → sz ≤ H.size → W p l e rm_X7_init s m args below meth c H locs 0 0 (MQ below (mm_Tz g A M2 (sz + 5)) args s 5 3714 A) (F0 m 0 ls []) from hmain _ _ hR va_S.rf hz
  clear hR hz
  intro H locs hR hS hz
  unfold ff_X7_init at hf
  refine lv_aload_n hx hb dX7_init_0 rfl (lv_at hl 0 rfl) ?_
  refine mm_obj C hl.1 mw_626 mw_18 oc_i (Nat.le_of_ble_eq_true rfl) (Nat.le_of_ble_eq_true rfl) dX7_init_1 ?_
  refine lv_aload_n hx hb dX7_init_4 rfl (lv_at hl 0 rfl) ?_
  refine lv_sipush (v := 518) hx hb dX7_init_5 (by decide) ?_
  obtain ⟨M1, eM1, hf⟩ := mm_bd hf
  refine mm_newAx (z := sz) (cells := 0) (slots := 0) (ty := .int) (N' := 518) C hR hS hs0 hAn hz rfl (sz + 1) 1 518 rfl rfl rfl rfl mw_64 (mm_ht0 C.2.2.2.2.2.1) rfl (by decide) (by decide) (Nat.le_of_ble_eq_true rfl) (Nat.le_of_ble_eq_true rfl) (Nat.le_of_ble_eq_true rfl) eM1 dX7_init_8 (fun H hz hR hS => ?_)
  obtain ⟨M2, eM2, hf⟩ := mm_bd hf
  refine mm_putRz C hR hS hnm ps_X7_7 (fun v => ⟨rfl, rfl⟩) eM2 dX7_init_10 hz (fun H locs hz hR hS => ?_)
  refine lv_aload_n hx hb dX7_init_13 rfl (lv_at hl 0 rfl) ?_
  refine lv_sipush (v := 518) hx hb dX7_init_14 (by decide) ?_
  obtain ⟨M3, eM3, hf⟩ := mm_bd hf
  refine mm_newAx (z := (sz + 1)) (cells := 1) (slots := 518) (ty := .int) (N' := 518) C hR hS hs0 hAn hz rfl (sz + 2) 2 1036 rfl rfl rfl rfl mw_64 (mm_ht0 C.2.2.2.2.2.1) rfl (by decide) (by decide) (Nat.le_of_ble_eq_true rfl) (Nat.le_of_ble_eq_true rfl) (Nat.le_of_ble_eq_true rfl) eM3 dX7_init_17 (fun H hz hR hS => ?_)
  obtain ⟨M4, eM4, hf⟩ := mm_bd hf
  refine mm_putRz C hR hS hnm ps_X7_13 (fun v => ⟨rfl, rfl⟩) eM4 dX7_init_19 hz (fun H locs hz hR hS => ?_)
  refine lv_aload_n hx hb dX7_init_22 rfl (lv_at hl 0 rfl) ?_
  refine lv_sipush (v := 2590) hx hb dX7_init_23 (by decide) ?_
  obtain ⟨M5, eM5, hf⟩ := mm_bd hf
  refine mm_newAx (z := (sz + 2)) (cells := 2) (slots := 1036) (ty := .int) (N' := 2590) C hR hS hs0 hAn hz rfl (sz + 3) 3 3626 rfl rfl rfl rfl mw_64 (mm_ht0 C.2.2.2.2.2.1) rfl (by decide) (by decide) (Nat.le_of_ble_eq_true rfl) (Nat.le_of_ble_eq_true rfl) (Nat.le_of_ble_eq_true rfl) eM5 dX7_init_26 (fun H hz hR hS => ?_)
  obtain ⟨M6, eM6, hf⟩ := mm_bd hf
  refine mm_putRz C hR hS hnm ps_X7_16 (fun v => ⟨rfl, rfl⟩) eM6 dX7_init_28 hz (fun H locs hz hR hS => ?_)
  refine lv_aload_n hx hb dX7_init_31 rfl (lv_at hl 0 rfl) ?_
  refine lv_bipush (v := 80) hx hb dX7_init_32 (by decide) ?_
  obtain ⟨M7, eM7, hf⟩ := mm_bd hf
  refine mm_newAx (z := (sz + 3)) (cells := 3) (slots := 3626) (ty := .int) (N' := 80) C hR hS hs0 hAn hz rfl (sz + 4) 4 3706 rfl rfl rfl rfl mw_64 (mm_ht0 C.2.2.2.2.2.1) rfl (by decide) (by decide) (Nat.le_of_ble_eq_true rfl) (Nat.le_of_ble_eq_true rfl) (Nat.le_of_ble_eq_true rfl) eM7 dX7_init_34 (fun H hz hR hS => ?_)
  obtain ⟨M8, eM8, hf⟩ := mm_bd hf
  refine mm_putRz C hR hS hnm ps_X7_19 (fun v => ⟨rfl, rfl⟩) eM8 dX7_init_36 hz (fun H locs hz hR hS => ?_)
  refine lv_aload_n hx hb dX7_init_39 rfl (lv_at hl 0 rfl) ?_
  refine lv_bipush (v := 8) hx hb dX7_init_40 (by decide) ?_
  obtain ⟨M9, eM9, hf⟩ := mm_bd hf
  refine mm_newAx (z := (sz + 4)) (cells := 4) (slots := 3706) (ty := .int) (N' := 8) C hR hS hs0 hAn hz rfl (sz + 5) 5 3714 rfl rfl rfl rfl mw_64 (mm_ht0 C.2.2.2.2.2.1) rfl (by decide) (by decide) (Nat.le_of_ble_eq_true rfl) (Nat.le_of_ble_eq_true rfl) (Nat.le_of_ble_eq_true rfl) eM9 dX7_init_42 (fun H hz hR hS => ?_)
  obtain ⟨M10, eM10, hf⟩ := mm_bd hf
  refine mm_putRz C hR hS hnm ps_X7_22 (fun v => ⟨rfl, rfl⟩) eM10 dX7_init_44 hz (fun H locs hz hR hS => ?_)
  refine lv_aload_n hx hb dX7_init_47 rfl (lv_at hl 0 rfl) ?_
  obtain ⟨v11, ev11, hf⟩ := mm_bd hf
  refine mm_getR C hR fs_X7_7 ev11 dX7_init_48 ?_
  refine lv_iconst (v := 2) hx hb dX7_init_51 (by decide) ?_
  refine lv_bipush (v := 20) hx hb dX7_init_52 (by decide) ?_
  obtain ⟨M12, eM12, hf⟩ := mm_bd hf
  refine mm_iastz C hR hS eM12 dX7_init_54 hz (fun H locs hz hR hS => ?_)
  refine lv_aload_n hx hb dX7_init_55 rfl (lv_at hl 0 rfl) ?_
  obtain ⟨v13, ev13, hf⟩ := mm_bd hf
  refine mm_getR C hR fs_X7_7 ev13 dX7_init_56 ?_
  refine lv_iconst (v := 3) hx hb dX7_init_59 (by decide) ?_
  refine lv_iconst (v := 2) hx hb dX7_init_60 (by decide) ?_
  obtain ⟨M14, eM14, hf⟩ := mm_bd hf
  refine mm_iastz C hR hS eM14 dX7_init_61 hz (fun H locs hz hR hS => ?_)
  refine lv_aload_n hx hb dX7_init_62 rfl (lv_at hl 0 rfl) ?_
  obtain ⟨v15, ev15, hf⟩ := mm_bd hf
  refine mm_getR C hR fs_X7_7 ev15 dX7_init_63 ?_
  refine lv_iconst (v := 4) hx hb dX7_init_66 (by decide) ?_
  refine lv_iconst (v := 1) hx hb dX7_init_67 (by decide) ?_
  obtain ⟨M16, eM16, hf⟩ := mm_bd hf
  refine mm_iastz C hR hS eM16 dX7_init_68 hz (fun H locs hz hR hS => ?_)
  refine lv_aload_n hx hb dX7_init_69 rfl (lv_at hl 0 rfl) ?_
  refine lv_bipush (v := 6) hx hb dX7_init_70 (by decide) ?_
  refine lv_iconst (v := 4) hx hb dX7_init_72 (by decide) ?_
  obtain ⟨u17, eu17, hf⟩ := mm_bd hf
  obtain ⟨M18, eM18, hf⟩ := mm_bd hf
  refine mm_callVvz (As := [.int (6 : Int32), .int (4 : Int32)]) (rest := []) C hR hS hl.1 vs_X7_25 eu17 (jj_X7_beginWith l g A M16 x0 (6 : Int32) (4 : Int32) M18 eM18) ⟨rfl, rfl, (Nat.le_of_ble_eq_true rfl), (Nat.le_of_ble_eq_true rfl)⟩ rfl (Nat.le_of_ble_eq_true rfl) ⟨(Nat.le_of_ble_eq_true rfl), (Nat.le_of_ble_eq_true rfl)⟩ rfl dX7_init_73 hz (fun H locs hz hR hS => ?_)
  exact mm_vrz C hR hS hr (Option.some.inj hf) hs0 hz rfl dX7_init_76
def ff_X7_in (M : mm_M) (x0 : Int32) (x1 : Int32) (x2 : Int32) : Option Int32 := if x0 < x1 then (some (0 : Int32)) else (if x2 < x0 then (some (0 : Int32)) else (some (1 : Int32)))
def rm_X7_in : Room := { frames := 0, cells := 0, slots := 0, locals := 0 }
set_option maxHeartbeats 4000000 in
set_option maxRecDepth 100000 in
theorem jj_X7_in (l : Launch) (g : mm_G) (A : Nat → Prop) (M : mm_M) (x0 : Int32) (x1 : Int32) (x2 : Int32) (r : Int32) (hf : ff_X7_in M x0 x1 x2 = some r) : Met l yX7_in (mm_ws yX7_in cX7_in 3 (Option.some Jvm.ClassFile.FieldType.boolean)) rm_X7_in (va_Pc [.int x0, .int x1, .int x2] (mm_B g A M)) (mm_Ti g A r M) 0 0 A := by
  refine mm_met (g := g) (lv := [(0, .int x0), (1, .int x1), (2, .int x2)]) (fun U h => h.2) (by decide +kernel) (Nat.le_of_ble_eq_true rfl) rfl ?_
  intro p e s m args below meth c ls C hr hnm hB hl
  obtain ⟨hR, hK⟩ := hB
  have hx := C.1
  have hb := C.2.1
  suffices hmain : ∀ (H : Heap) (locs : List Loc), mm_R g A M H → va_S A s.heap H locs → W p l e rm_X7_in s m args below meth c H locs 0 0 (MQ below (mm_Ti g A r M) args s 0 0 A) (F0 m 0 ls []) from hmain _ _ hR va_S.rf
  clear hR
  intro H locs hR hS
  unfold ff_X7_in at hf
  refine lv_iload_n hx hb dX7_in_0 rfl (lv_at hl 0 rfl) ?_
  refine lv_iload_n hx hb dX7_in_1 rfl (lv_at hl 1 rfl) ?_
  refine lv_icmp_lt (tgt := 14) hx hb dX7_in_2 (by decide) (fun hc => ?_) (fun hc => ?_)
  · have hf := mm_if1 hc hf
    refine lv_iconst (v := 0) hx hb dX7_in_14 (by decide) ?_
    exact mm_zre C hR hS hr (Or.inl rfl) ((Option.some.inj hf)) rfl dX7_in_15
  · have hf := mm_if0 hc hf
    refine lv_iload_n hx hb dX7_in_5 rfl (lv_at hl 0 rfl) ?_
    refine lv_iload_n hx hb dX7_in_6 rfl (lv_at hl 2 rfl) ?_
    refine lv_icmp_gt (tgt := 14) hx hb dX7_in_7 (by decide) (fun hc => ?_) (fun hc => ?_)
    · have hf := mm_if1 hc hf
      refine lv_iconst (v := 0) hx hb dX7_in_14 (by decide) ?_
      exact mm_zre C hR hS hr (Or.inl rfl) ((Option.some.inj hf)) rfl dX7_in_15
    · have hf := mm_if0 hc hf
      refine lv_iconst (v := 1) hx hb dX7_in_10 (by decide) ?_
      refine lv_goto (tgt := 15) hx hb dX7_in_11 (by decide) ?_
      exact mm_zre C hR hS hr (Or.inr rfl) ((Option.some.inj hf)) rfl dX7_in_15
def ff_X7_lesser (M : mm_M) (x0 : Int32) (x1 : Int32) : Option Int32 := if x1 ≤ x0 then (some x1) else (some x0)
def rm_X7_lesser : Room := { frames := 0, cells := 0, slots := 0, locals := 0 }
set_option maxHeartbeats 4000000 in
set_option maxRecDepth 100000 in
theorem jj_X7_lesser (l : Launch) (g : mm_G) (A : Nat → Prop) (M : mm_M) (x0 : Int32) (x1 : Int32) (r : Int32) (hf : ff_X7_lesser M x0 x1 = some r) : Met l yX7_lesser (mm_ws yX7_lesser cX7_lesser 2 (Option.some Jvm.ClassFile.FieldType.int)) rm_X7_lesser (va_Pc [.int x0, .int x1] (mm_B g A M)) (mm_Ti g A r M) 0 0 A := by
  refine mm_met (g := g) (lv := [(0, .int x0), (1, .int x1)]) (fun U h => h.2) (by decide +kernel) (Nat.le_of_ble_eq_true rfl) rfl ?_
  intro p e s m args below meth c ls C hr hnm hB hl
  obtain ⟨hR, hK⟩ := hB
  have hx := C.1
  have hb := C.2.1
  suffices hmain : ∀ (H : Heap) (locs : List Loc), mm_R g A M H → va_S A s.heap H locs → W p l e rm_X7_lesser s m args below meth c H locs 0 0 (MQ below (mm_Ti g A r M) args s 0 0 A) (F0 m 0 ls []) from hmain _ _ hR va_S.rf
  clear hR
  intro H locs hR hS
  unfold ff_X7_lesser at hf
  refine lv_iload_n hx hb dX7_lesser_0 rfl (lv_at hl 0 rfl) ?_
  refine lv_iload_n hx hb dX7_lesser_1 rfl (lv_at hl 1 rfl) ?_
  refine lv_icmp_ge (tgt := 9) hx hb dX7_lesser_2 (by decide) (fun hc => ?_) (fun hc => ?_)
  · have hf := mm_if1 hc hf
    refine lv_iload_n hx hb dX7_lesser_9 rfl (lv_at hl 1 rfl) ?_
    exact mm_ire C hR hS hr ((Option.some.inj hf)) rfl dX7_lesser_10
  · have hf := mm_if0 hc hf
    refine lv_iload_n hx hb dX7_lesser_5 rfl (lv_at hl 0 rfl) ?_
    refine lv_goto (tgt := 10) hx hb dX7_lesser_6 (by decide) ?_
    exact mm_ire C hR hS hr ((Option.some.inj hf)) rfl dX7_lesser_10
def ff_X7_size (M : mm_M) (x0 : Int32) : Option Int32 := if (0 : Int32) ≤ x0 then (some x0) else (some (-x0))
def rm_X7_size : Room := { frames := 0, cells := 0, slots := 0, locals := 0 }
set_option maxHeartbeats 4000000 in
set_option maxRecDepth 100000 in
theorem jj_X7_size (l : Launch) (g : mm_G) (A : Nat → Prop) (M : mm_M) (x0 : Int32) (r : Int32) (hf : ff_X7_size M x0 = some r) : Met l yX7_size (mm_ws yX7_size cX7_size 1 (Option.some Jvm.ClassFile.FieldType.int)) rm_X7_size (va_Pc [.int x0] (mm_B g A M)) (mm_Ti g A r M) 0 0 A := by
  refine mm_met (g := g) (lv := [(0, .int x0)]) (fun U h => h.2) (by decide +kernel) (Nat.le_of_ble_eq_true rfl) rfl ?_
  intro p e s m args below meth c ls C hr hnm hB hl
  obtain ⟨hR, hK⟩ := hB
  have hx := C.1
  have hb := C.2.1
  suffices hmain : ∀ (H : Heap) (locs : List Loc), mm_R g A M H → va_S A s.heap H locs → W p l e rm_X7_size s m args below meth c H locs 0 0 (MQ below (mm_Ti g A r M) args s 0 0 A) (F0 m 0 ls []) from hmain _ _ hR va_S.rf
  clear hR
  intro H locs hR hS
  unfold ff_X7_size at hf
  refine lv_iload_n hx hb dX7_size_0 rfl (lv_at hl 0 rfl) ?_
  refine lv_if_ge (tgt := 9) hx hb dX7_size_1 (by decide) (fun hc => ?_) (fun hc => ?_)
  · have hf := mm_if1 hc hf
    refine lv_iload_n hx hb dX7_size_9 rfl (lv_at hl 0 rfl) ?_
    exact mm_ire C hR hS hr ((Option.some.inj hf)) rfl dX7_size_10
  · have hf := mm_if0 hc hf
    refine lv_iload_n hx hb dX7_size_4 rfl (lv_at hl 0 rfl) ?_
    refine lv_ineg hx hb dX7_size_5 ?_
    refine lv_goto (tgt := 10) hx hb dX7_size_6 (by decide) ?_
    exact mm_ire C hR hS hr ((Option.some.inj hf)) rfl dX7_size_10
def ff_X7_bring_l3 (x0 : Nat) (x1 : Int32) (x2 : Nat) (x3 : Int32) (x4 : Int32) (M : mm_M) : Option ((Int32 × mm_M) ⊕ (Int32 × mm_M)) := if (518 : Int32) ≤ x4 then (some (.inr (x4, M))) else (Option.bind (mm_aI 0 M x0 (x1 + x4)) fun v1 => Option.bind (mm_sI 0 M x2 (x3 + x4) v1) fun M2 => some (.inl ((x4 + (1 : Int32)), M2)))
def ff_X7_bring (M : mm_M) (x0 : Nat) (x1 : Int32) (x2 : Nat) (x3 : Int32) : Option mm_M := Option.bind (mm_it (mm_u2 (ff_X7_bring_l3 x0 x1 x2 x3)) mm_fu ((0 : Int32), M)) fun e3 => mm_u2 (fun x4_4 M5 => some M5) e3
def rm_X7_bring : Room := { frames := 0, cells := 0, slots := 0, locals := 0 }
set_option maxHeartbeats 4000000 in
set_option maxRecDepth 100000 in
theorem jj_X7_bring (l : Launch) (g : mm_G) (A : Nat → Prop) (M : mm_M) (x0 : Nat) (x1 : Int32) (x2 : Nat) (x3 : Int32) (M2 : mm_M) (hf : ff_X7_bring M x0 x1 x2 x3 = some M2) : Met l yX7_bring (mm_ws yX7_bring cX7_bring 5 (Option.none : Option Jvm.ClassFile.FieldType)) rm_X7_bring (va_Pc [.ref x0, .int x1, .ref x2, .int x3] (mm_B g A M)) (mm_Tv g A M2) 0 0 A := by
  refine mm_met (g := g) (lv := [(0, .ref x0), (1, .int x1), (2, .ref x2), (3, .int x3)]) (fun U h => h.2) (by decide +kernel) (Nat.le_of_ble_eq_true rfl) rfl ?_
  intro p e s m args below meth c ls C hr hnm hB hl
  obtain ⟨hR, hK⟩ := hB
  have hx := C.1
  have hb := C.2.1
  suffices hmain : ∀ (H : Heap) (locs : List Loc), mm_R g A M H → va_S A s.heap H locs → W p l e rm_X7_bring s m args below meth c H locs 0 0 (MQ below (mm_Tv g A M2) args s 0 0 A) (F0 m 0 ls []) from hmain _ _ hR va_S.rf
  clear hR
  intro H locs hR hS
  have L3 : ∀ (x0 : Nat) (x1 : Int32) (x2 : Nat) (x3 : Int32) (e1 : Int32 × mm_M) (hX : ∀ (x4 : Int32) (M : mm_M), e1 = (x4, M) → ∀ (H : Heap) (locs : List Loc) (ls : Array Slot), mm_R g A M H → va_S A s.heap H locs → lv_has ls 5 [] → W p l e rm_X7_bring s m args below meth c H locs 0 0 (MQ below (mm_Tv g A M2) args s 0 0 A) (F0 m 29 ls [])) (n : Nat) (x4 : Int32) (M : mm_M), mm_it (mm_u2 (ff_X7_bring_l3 x0 x1 x2 x3)) n (x4, M) = some e1 → ∀ (H : Heap) (locs : List Loc) (ls : Array Slot), mm_R g A M H → va_S A s.heap H locs → lv_has ls 5 [(0, .ref x0), (1, .int x1), (2, .ref x2), (3, .int x3), (4, .int x4)] → W p l e rm_X7_bring s m args below meth c H locs 0 0 (MQ below (mm_Tv g A M2) args s 0 0 A) (F0 m 3 ls []) := by
    intro x0 x1 x2 x3 e1 hX n x4 M hit
    refine mm_itW (Hd := fun st => ∀ (H : Heap) (locs : List Loc) (ls : Array Slot), mm_R g A st.2 H → va_S A s.heap H locs → lv_has ls 5 [(0, .ref x0), (1, .int x1), (2, .ref x2), (3, .int x3), (4, .int st.1)] → W p l e rm_X7_bring s m args below meth c H locs 0 0 (MQ below (mm_Tv g A M2) args s 0 0 A) (F0 m 3 ls [])) (fun st y hf hin hout => ?_) n (x4, M) hit
    obtain ⟨x4, M⟩ := st
    have hf := mm_u2e hf
    intro H locs ls hR hS hl
    unfold ff_X7_bring_l3 at hf
    refine lv_iload hx hb dX7_bring_3 (lv_at hl 4 rfl) ?_
    refine lv_sipush (v := 518) hx hb dX7_bring_5 (by decide) ?_
    refine lv_icmp_ge (tgt := 29) hx hb dX7_bring_8 (by decide) (fun hc => ?_) (fun hc => ?_)
    · have hf := mm_if1 hc hf
      exact hX _ _ (hout _ (Option.some.inj hf).symm).symm H locs ls hR hS (lv_sub hl [] rfl)
    · have hf := mm_if0 hc hf
      refine lv_aload_n hx hb dX7_bring_11 rfl (lv_at hl 2 rfl) ?_
      refine lv_iload_n hx hb dX7_bring_12 rfl (lv_at hl 3 rfl) ?_
      refine lv_iload hx hb dX7_bring_13 (lv_at hl 4 rfl) ?_
      refine lv_iadd hx hb dX7_bring_15 ?_
      refine lv_aload_n hx hb dX7_bring_16 rfl (lv_at hl 0 rfl) ?_
      refine lv_iload_n hx hb dX7_bring_17 rfl (lv_at hl 1 rfl) ?_
      refine lv_iload hx hb dX7_bring_18 (lv_at hl 4 rfl) ?_
      refine lv_iadd hx hb dX7_bring_20 ?_
      obtain ⟨v1, ev1, hf⟩ := mm_bd hf
      refine mm_iald C hR ev1 dX7_bring_21 ?_
      obtain ⟨M2, eM2, hf⟩ := mm_bd hf
      refine mm_iast C hR hS eM2 dX7_bring_22 (fun H locs hR hS => ?_)
      refine lv_iinc (v := (x4 + (1 : Int32))) (lv' := [(4, .int (x4 + (1 : Int32))), (0, .ref x0), (1, .int x1), (2, .ref x2), (3, .int x3)]) hx hb dX7_bring_23 hl (k := 4) rfl rfl (by decide) rfl (fun ls hl => ?_)
      refine lv_goto (tgt := 3) hx hb dX7_bring_26 (by decide) ?_
      exact hin _ (Option.some.inj hf).symm H locs ls hR hS (lv_sub hl [1, 2, 3, 4, 0] rfl)
  unfold ff_X7_bring at hf
  refine lv_iconst (v := 0) hx hb dX7_bring_0 (by decide) ?_
  refine lv_istore (lv' := [(4, .int (0 : Int32)), (0, .ref x0), (1, .int x1), (2, .ref x2), (3, .int x3)]) hx hb dX7_bring_1 hl (by decide) rfl (fun ls hl => ?_)
  obtain ⟨e3, he3, hf⟩ := mm_bd hf
  refine L3 x0 x1 x2 x3 e3 (fun x4_4 M5 he => ?_) _ (0 : Int32) M he3 H locs ls hR hS (lv_sub hl [1, 2, 3, 4, 0] rfl)
  subst he
  intro H locs ls hR hS hl
  have hf := mm_u2e hf
  exact mm_vre C hR hS hr (Option.some.inj hf) dX7_bring_29
def ff_X7_keep_j49 (M : mm_M) (x0 : Nat) : Option (mm_M) := Option.bind (mm_gR 7 M x0 0) fun v2 => Option.bind (mm_gR 7 M x0 2) fun v3 => Option.bind (mm_gI 7 M x0 3) fun v4 => Option.bind (ff_X7_bring M v2 (0 : Int32) v3 ((518 : Int32) * v4)) fun M5 => Option.bind (mm_gI 7 M5 x0 3) fun v6 => Option.bind (mm_pI 7 M5 x0 3 (v6 + (1 : Int32))) fun M7 => some M7
def ff_X7_keep_l10 (x0 : Nat) (x1 : Int32) (M : mm_M) : Option ((Int32 × mm_M) ⊕ (Int32 × mm_M)) := if (2072 : Int32) ≤ x1 then (some (.inr (x1, M))) else (Option.bind (mm_gR 7 M x0 2) fun v8 => Option.bind (mm_gR 7 M x0 2) fun v9 => Option.bind (mm_aI 0 M v9 (x1 + (518 : Int32))) fun v10 => Option.bind (mm_sI 0 M v8 x1 v10) fun M11 => some (.inl ((x1 + (1 : Int32)), M11)))
def ff_X7_keep (M : mm_M) (x0 : Nat) : Option mm_M := Option.bind (mm_gI 7 M x0 3) fun v1 => if v1 = (5 : Int32) then (Option.bind (mm_it (mm_u2 (ff_X7_keep_l10 x0)) mm_fu ((0 : Int32), M)) fun e12 => mm_u2 (fun x1_13 M14 => Option.bind (mm_gI 7 M14 x0 3) fun v15 => Option.bind (mm_pI 7 M14 x0 3 (v15 - (1 : Int32))) fun M16 => ff_X7_keep_j49 M16 x0) e12) else (ff_X7_keep_j49 M x0)
def rm_X7_keep : Room := { frames := 1, cells := 0, slots := 0, locals := 24 }
set_option maxHeartbeats 4000000 in
set_option maxRecDepth 100000 in
theorem jj_X7_keep (l : Launch) (g : mm_G) (A : Nat → Prop) (M : mm_M) (x0 : Nat) (M2 : mm_M) (hf : ff_X7_keep M x0 = some M2) : Met l yX7_keep (mm_ws yX7_keep cX7_keep 2 (Option.none : Option Jvm.ClassFile.FieldType)) rm_X7_keep (va_Pc [.ref x0] (mm_B g A M)) (mm_Tv g A M2) 0 0 A := by
  refine mm_met (g := g) (lv := [(0, .ref x0)]) (fun U h => h.2) (by decide +kernel) (Nat.le_of_ble_eq_true rfl) rfl ?_
  intro p e s m args below meth c ls C hr hnm hB hl
  obtain ⟨hR, hK⟩ := hB
  have hx := C.1
  have hb := C.2.1
  suffices hmain : ∀ (H : Heap) (locs : List Loc), mm_R g A M H → va_S A s.heap H locs → W p l e rm_X7_keep s m args below meth c H locs 0 0 (MQ below (mm_Tv g A M2) args s 0 0 A) (F0 m 0 ls []) from hmain _ _ hR va_S.rf
  clear hR
  intro H locs hR hS
  have L10 : ∀ (x0 : Nat) (e1 : Int32 × mm_M) (hX : ∀ (x1 : Int32) (M : mm_M), e1 = (x1, M) → ∀ (H : Heap) (locs : List Loc) (ls : Array Slot), mm_R g A M H → va_S A s.heap H locs → lv_has ls 2 [(0, .ref x0)] → W p l e rm_X7_keep s m args below meth c H locs 0 0 (MQ below (mm_Tv g A M2) args s 0 0 A) (F0 m 39 ls [])) (n : Nat) (x1 : Int32) (M : mm_M), mm_it (mm_u2 (ff_X7_keep_l10 x0)) n (x1, M) = some e1 → ∀ (H : Heap) (locs : List Loc) (ls : Array Slot), mm_R g A M H → va_S A s.heap H locs → lv_has ls 2 [(0, .ref x0), (1, .int x1)] → W p l e rm_X7_keep s m args below meth c H locs 0 0 (MQ below (mm_Tv g A M2) args s 0 0 A) (F0 m 10 ls []) := by
    intro x0 e1 hX n x1 M hit
    refine mm_itW (Hd := fun st => ∀ (H : Heap) (locs : List Loc) (ls : Array Slot), mm_R g A st.2 H → va_S A s.heap H locs → lv_has ls 2 [(0, .ref x0), (1, .int st.1)] → W p l e rm_X7_keep s m args below meth c H locs 0 0 (MQ below (mm_Tv g A M2) args s 0 0 A) (F0 m 10 ls [])) (fun st y hf hin hout => ?_) n (x1, M) hit
    obtain ⟨x1, M⟩ := st
    have hf := mm_u2e hf
    intro H locs ls hR hS hl
    unfold ff_X7_keep_l10 at hf
    refine lv_iload_n hx hb dX7_keep_10 rfl (lv_at hl 1 rfl) ?_
    refine lv_sipush (v := 2072) hx hb dX7_keep_11 (by decide) ?_
    refine lv_icmp_ge (tgt := 39) hx hb dX7_keep_14 (by decide) (fun hc => ?_) (fun hc => ?_)
    · have hf := mm_if1 hc hf
      exact hX _ _ (hout _ (Option.some.inj hf).symm).symm H locs ls hR hS (lv_sub hl [0] rfl)
    · have hf := mm_if0 hc hf
      refine lv_aload_n hx hb dX7_keep_17 rfl (lv_at hl 0 rfl) ?_
      obtain ⟨v8, ev8, hf⟩ := mm_bd hf
      refine mm_getR C hR fs_X7_16 ev8 dX7_keep_18 ?_
      refine lv_iload_n hx hb dX7_keep_21 rfl (lv_at hl 1 rfl) ?_
      refine lv_aload_n hx hb dX7_keep_22 rfl (lv_at hl 0 rfl) ?_
      obtain ⟨v9, ev9, hf⟩ := mm_bd hf
      refine mm_getR C hR fs_X7_16 ev9 dX7_keep_23 ?_
      refine lv_iload_n hx hb dX7_keep_26 rfl (lv_at hl 1 rfl) ?_
      refine lv_sipush (v := 518) hx hb dX7_keep_27 (by decide) ?_
      refine lv_iadd hx hb dX7_keep_30 ?_
      obtain ⟨v10, ev10, hf⟩ := mm_bd hf
      refine mm_iald C hR ev10 dX7_keep_31 ?_
      obtain ⟨M11, eM11, hf⟩ := mm_bd hf
      refine mm_iast C hR hS eM11 dX7_keep_32 (fun H locs hR hS => ?_)
      refine lv_iinc (v := (x1 + (1 : Int32))) (lv' := [(1, .int (x1 + (1 : Int32))), (0, .ref x0)]) hx hb dX7_keep_33 hl (k := 1) rfl rfl (by decide) rfl (fun ls hl => ?_)
      refine lv_goto (tgt := 10) hx hb dX7_keep_36 (by decide) ?_
      exact hin _ (Option.some.inj hf).symm H locs ls hR hS (lv_sub hl [1, 0] rfl)
  have J49 : ∀ (M : mm_M) (x0 : Nat) (H : Heap) (locs : List Loc) (ls : Array Slot), mm_R g A M H → va_S A s.heap H locs → lv_has ls 2 [(0, .ref x0)] → ff_X7_keep_j49 M x0 = some M2 → W p l e rm_X7_keep s m args below meth c H locs 0 0 (MQ below (mm_Tv g A M2) args s 0 0 A) (F0 m 49 ls []) := by
    intro M x0 H locs ls hR hS hl hf
    unfold ff_X7_keep_j49 at hf
    refine lv_aload_n hx hb dX7_keep_49 rfl (lv_at hl 0 rfl) ?_
    obtain ⟨v2, ev2, hf⟩ := mm_bd hf
    refine mm_getR C hR fs_X7_7 ev2 dX7_keep_50 ?_
    refine lv_iconst (v := 0) hx hb dX7_keep_53 (by decide) ?_
    refine lv_aload_n hx hb dX7_keep_54 rfl (lv_at hl 0 rfl) ?_
    obtain ⟨v3, ev3, hf⟩ := mm_bd hf
    refine mm_getR C hR fs_X7_16 ev3 dX7_keep_55 ?_
    refine lv_sipush (v := 518) hx hb dX7_keep_58 (by decide) ?_
    refine lv_aload_n hx hb dX7_keep_61 rfl (lv_at hl 0 rfl) ?_
    obtain ⟨v4, ev4, hf⟩ := mm_bd hf
    refine mm_getI C hR fs_X7_29 ev4 dX7_keep_62 ?_
    refine lv_imul hx hb dX7_keep_65 ?_
    obtain ⟨M5, eM5, hf⟩ := mm_bd hf
    refine mm_callSv (As := [.ref v2, .int (0 : Int32), .ref v3, .int ((518 : Int32) * v4)]) (rest := []) C hR hS hl.1 ss_X7_33 (jj_X7_bring l g A M v2 (0 : Int32) v3 ((518 : Int32) * v4) M5 eM5) ⟨rfl, rfl, (Nat.le_of_ble_eq_true rfl), (Nat.le_of_ble_eq_true rfl)⟩ rfl (Nat.le_of_ble_eq_true rfl) ⟨Nat.zero_le _, Nat.zero_le _⟩ rfl dX7_keep_66 (fun H locs hR hS => ?_)
    refine lv_aload_n hx hb dX7_keep_69 rfl (lv_at hl 0 rfl) ?_
    refine lv_dup hx hb dX7_keep_70 rfl ?_
    obtain ⟨v6, ev6, hf⟩ := mm_bd hf
    refine mm_getI C hR fs_X7_29 ev6 dX7_keep_71 ?_
    refine lv_iconst (v := 1) hx hb dX7_keep_74 (by decide) ?_
    refine lv_iadd hx hb dX7_keep_75 ?_
    obtain ⟨M7, eM7, hf⟩ := mm_bd hf
    refine mm_putI C hR hS ps_X7_29 eM7 dX7_keep_76 (fun H locs hR hS => ?_)
    exact mm_vre C hR hS hr (Option.some.inj hf) dX7_keep_79
  unfold ff_X7_keep at hf
  refine lv_aload_n hx hb dX7_keep_0 rfl (lv_at hl 0 rfl) ?_
  obtain ⟨v1, ev1, hf⟩ := mm_bd hf
  refine mm_getI C hR fs_X7_29 ev1 dX7_keep_1 ?_
  refine lv_iconst (v := 5) hx hb dX7_keep_4 (by decide) ?_
  refine lv_icmp_ne (tgt := 49) hx hb dX7_keep_5 (by decide) (fun hc => ?_) (fun hc => ?_)
  · have hf := mm_if0 hc hf
    exact J49 M x0 H locs ls hR hS (lv_sub hl [0] rfl) hf
  · have hf := mm_if1 hc hf
    refine lv_iconst (v := 0) hx hb dX7_keep_8 (by decide) ?_
    refine lv_istore_n (lv' := [(1, .int (0 : Int32)), (0, .ref x0)]) hx hb dX7_keep_9 rfl hl (by decide) rfl (fun ls hl => ?_)
    obtain ⟨e12, he12, hf⟩ := mm_bd hf
    refine L10 x0 e12 (fun x1_13 M14 he => ?_) _ (0 : Int32) M he12 H locs ls hR hS (lv_sub hl [1, 0] rfl)
    subst he
    intro H locs ls hR hS hl
    have hf := mm_u2e hf
    refine lv_aload_n hx hb dX7_keep_39 rfl (lv_at hl 0 rfl) ?_
    refine lv_dup hx hb dX7_keep_40 rfl ?_
    obtain ⟨v15, ev15, hf⟩ := mm_bd hf
    refine mm_getI C hR fs_X7_29 ev15 dX7_keep_41 ?_
    refine lv_iconst (v := 1) hx hb dX7_keep_44 (by decide) ?_
    refine lv_isub hx hb dX7_keep_45 ?_
    obtain ⟨M16, eM16, hf⟩ := mm_bd hf
    refine mm_putI C hR hS ps_X7_29 eM16 dX7_keep_46 (fun H locs hR hS => ?_)
    exact J49 M16 x0 H locs ls hR hS (lv_sub hl [0] rfl) hf
def ff_X7_isCell (M : mm_M) (x0 : Nat) (x1 : Int32) (x2 : Int32) : Option Int32 := Option.bind (mm_gR 7 M x0 0) fun v1 => Option.bind (mm_aI 0 M v1 (0 : Int32)) fun v2 => Option.bind (ff_X7_in M x1 (0 : Int32) (v2 - (1 : Int32))) fun v3 => if v3 = (0 : Int32) then (some (0 : Int32)) else (Option.bind (mm_gR 7 M x0 0) fun v4 => Option.bind (mm_aI 0 M v4 (1 : Int32)) fun v5 => Option.bind (ff_X7_in M x2 (0 : Int32) (v5 - (1 : Int32))) fun v6 => if v6 = (0 : Int32) then (some (0 : Int32)) else (some (1 : Int32)))
def rm_X7_isCell : Room := { frames := 1, cells := 0, slots := 0, locals := 22 }
set_option maxHeartbeats 4000000 in
set_option maxRecDepth 100000 in
theorem jj_X7_isCell (l : Launch) (g : mm_G) (A : Nat → Prop) (M : mm_M) (x0 : Nat) (x1 : Int32) (x2 : Int32) (r : Int32) (hf : ff_X7_isCell M x0 x1 x2 = some r) : Met l yX7_isCell (mm_ws yX7_isCell cX7_isCell 3 (Option.some Jvm.ClassFile.FieldType.boolean)) rm_X7_isCell (va_Pc [.ref x0, .int x1, .int x2] (mm_B g A M)) (mm_Ti g A r M) 0 0 A := by
  refine mm_met (g := g) (lv := [(0, .ref x0), (1, .int x1), (2, .int x2)]) (fun U h => h.2) (by decide +kernel) (Nat.le_of_ble_eq_true rfl) rfl ?_
  intro p e s m args below meth c ls C hr hnm hB hl
  obtain ⟨hR, hK⟩ := hB
  have hx := C.1
  have hb := C.2.1
  suffices hmain : ∀ (H : Heap) (locs : List Loc), mm_R g A M H → va_S A s.heap H locs → W p l e rm_X7_isCell s m args below meth c H locs 0 0 (MQ below (mm_Ti g A r M) args s 0 0 A) (F0 m 0 ls []) from hmain _ _ hR va_S.rf
  clear hR
  intro H locs hR hS
  unfold ff_X7_isCell at hf
  refine lv_iload_n hx hb dX7_isCell_0 rfl (lv_at hl 1 rfl) ?_
  refine lv_iconst (v := 0) hx hb dX7_isCell_1 (by decide) ?_
  refine lv_aload_n hx hb dX7_isCell_2 rfl (lv_at hl 0 rfl) ?_
  obtain ⟨v1, ev1, hf⟩ := mm_bd hf
  refine mm_getR C hR fs_X7_7 ev1 dX7_isCell_3 ?_
  refine lv_iconst (v := 0) hx hb dX7_isCell_6 (by decide) ?_
  obtain ⟨v2, ev2, hf⟩ := mm_bd hf
  refine mm_iald C hR ev2 dX7_isCell_7 ?_
  refine lv_iconst (v := 1) hx hb dX7_isCell_8 (by decide) ?_
  refine lv_isub hx hb dX7_isCell_9 ?_
  obtain ⟨v3, ev3, hf⟩ := mm_bd hf
  refine mm_callSi (As := [.int x1, .int (0 : Int32), .int (v2 - (1 : Int32))]) (rest := []) C hR hS hl.1 ss_X7_37 (jj_X7_in l g A M x1 (0 : Int32) (v2 - (1 : Int32)) v3 ev3) ⟨rfl, rfl, (Nat.le_of_ble_eq_true rfl), (Nat.le_of_ble_eq_true rfl)⟩ rfl (Nat.le_of_ble_eq_true rfl) ⟨Nat.zero_le _, Nat.zero_le _⟩ rfl dX7_isCell_10 (fun H locs hR hS => ?_)
  refine lv_if_eq (tgt := 36) hx hb dX7_isCell_13 (by decide) (fun hc => ?_) (fun hc => ?_)
  · have hf := mm_if1 hc hf
    refine lv_iconst (v := 0) hx hb dX7_isCell_36 (by decide) ?_
    exact mm_zre C hR hS hr (Or.inl rfl) ((Option.some.inj hf)) rfl dX7_isCell_37
  · have hf := mm_if0 hc hf
    refine lv_iload_n hx hb dX7_isCell_16 rfl (lv_at hl 2 rfl) ?_
    refine lv_iconst (v := 0) hx hb dX7_isCell_17 (by decide) ?_
    refine lv_aload_n hx hb dX7_isCell_18 rfl (lv_at hl 0 rfl) ?_
    obtain ⟨v4, ev4, hf⟩ := mm_bd hf
    refine mm_getR C hR fs_X7_7 ev4 dX7_isCell_19 ?_
    refine lv_iconst (v := 1) hx hb dX7_isCell_22 (by decide) ?_
    obtain ⟨v5, ev5, hf⟩ := mm_bd hf
    refine mm_iald C hR ev5 dX7_isCell_23 ?_
    refine lv_iconst (v := 1) hx hb dX7_isCell_24 (by decide) ?_
    refine lv_isub hx hb dX7_isCell_25 ?_
    obtain ⟨v6, ev6, hf⟩ := mm_bd hf
    refine mm_callSi (As := [.int x2, .int (0 : Int32), .int (v5 - (1 : Int32))]) (rest := []) C hR hS hl.1 ss_X7_37 (jj_X7_in l g A M x2 (0 : Int32) (v5 - (1 : Int32)) v6 ev6) ⟨rfl, rfl, (Nat.le_of_ble_eq_true rfl), (Nat.le_of_ble_eq_true rfl)⟩ rfl (Nat.le_of_ble_eq_true rfl) ⟨Nat.zero_le _, Nat.zero_le _⟩ rfl dX7_isCell_26 (fun H locs hR hS => ?_)
    refine lv_if_eq (tgt := 36) hx hb dX7_isCell_29 (by decide) (fun hc => ?_) (fun hc => ?_)
    · have hf := mm_if1 hc hf
      refine lv_iconst (v := 0) hx hb dX7_isCell_36 (by decide) ?_
      exact mm_zre C hR hS hr (Or.inl rfl) ((Option.some.inj hf)) rfl dX7_isCell_37
    · have hf := mm_if0 hc hf
      refine lv_iconst (v := 1) hx hb dX7_isCell_32 (by decide) ?_
      refine lv_goto (tgt := 37) hx hb dX7_isCell_33 (by decide) ?_
      exact mm_zre C hR hS hr (Or.inr rfl) ((Option.some.inj hf)) rfl dX7_isCell_37
def ff_X7_cells (M : mm_M) (x0 : Nat) : Option Int32 := Option.bind (mm_gR 7 M x0 0) fun v1 => Option.bind (mm_aI 0 M v1 (0 : Int32)) fun v2 => Option.bind (mm_gR 7 M x0 0) fun v3 => Option.bind (mm_aI 0 M v3 (1 : Int32)) fun v4 => some (v2 * v4)
def rm_X7_cells : Room := { frames := 0, cells := 0, slots := 0, locals := 0 }
set_option maxHeartbeats 4000000 in
set_option maxRecDepth 100000 in
theorem jj_X7_cells (l : Launch) (g : mm_G) (A : Nat → Prop) (M : mm_M) (x0 : Nat) (r : Int32) (hf : ff_X7_cells M x0 = some r) : Met l yX7_cells (mm_ws yX7_cells cX7_cells 1 (Option.some Jvm.ClassFile.FieldType.int)) rm_X7_cells (va_Pc [.ref x0] (mm_B g A M)) (mm_Ti g A r M) 0 0 A := by
  refine mm_met (g := g) (lv := [(0, .ref x0)]) (fun U h => h.2) (by decide +kernel) (Nat.le_of_ble_eq_true rfl) rfl ?_
  intro p e s m args below meth c ls C hr hnm hB hl
  obtain ⟨hR, hK⟩ := hB
  have hx := C.1
  have hb := C.2.1
  suffices hmain : ∀ (H : Heap) (locs : List Loc), mm_R g A M H → va_S A s.heap H locs → W p l e rm_X7_cells s m args below meth c H locs 0 0 (MQ below (mm_Ti g A r M) args s 0 0 A) (F0 m 0 ls []) from hmain _ _ hR va_S.rf
  clear hR
  intro H locs hR hS
  unfold ff_X7_cells at hf
  refine lv_aload_n hx hb dX7_cells_0 rfl (lv_at hl 0 rfl) ?_
  obtain ⟨v1, ev1, hf⟩ := mm_bd hf
  refine mm_getR C hR fs_X7_7 ev1 dX7_cells_1 ?_
  refine lv_iconst (v := 0) hx hb dX7_cells_4 (by decide) ?_
  obtain ⟨v2, ev2, hf⟩ := mm_bd hf
  refine mm_iald C hR ev2 dX7_cells_5 ?_
  refine lv_aload_n hx hb dX7_cells_6 rfl (lv_at hl 0 rfl) ?_
  obtain ⟨v3, ev3, hf⟩ := mm_bd hf
  refine mm_getR C hR fs_X7_7 ev3 dX7_cells_7 ?_
  refine lv_iconst (v := 1) hx hb dX7_cells_10 (by decide) ?_
  obtain ⟨v4, ev4, hf⟩ := mm_bd hf
  refine mm_iald C hR ev4 dX7_cells_11 ?_
  refine lv_imul hx hb dX7_cells_12 ?_
  exact mm_ire C hR hS hr ((Option.some.inj hf)) rfl dX7_cells_13
def ff_X7_laidCells_j32 (M : mm_M) (x0 : Nat) (x2 : Int32) (y0 : Int32) (y1 : Int32) : Option ((Int32 × Int32) ⊕ (Int32 × Int32)) := some (.inl ((y1 + y0), (x2 + (1 : Int32))))
def ff_X7_laidCells_l4 (M : mm_M) (x0 : Nat) (x1 : Int32) (x2 : Int32) : Option ((Int32 × Int32) ⊕ (Int32 × Int32)) := Option.bind (mm_ck 7 M x0) fun u1 => Option.bind (ff_X7_cells M x0) fun v2 => if v2 ≤ x2 then (some (.inr (x1, x2))) else (Option.bind (mm_gR 7 M x0 0) fun v3 => Option.bind (mm_aI 0 M v3 ((164 : Int32) + x2)) fun v4 => if v4 = (-1 : Int32) then (ff_X7_laidCells_j32 M x0 x2 (0 : Int32) x1) else (ff_X7_laidCells_j32 M x0 x2 (1 : Int32) x1))
def ff_X7_laidCells (M : mm_M) (x0 : Nat) : Option Int32 := Option.bind (mm_it (mm_u2 (ff_X7_laidCells_l4 M x0)) mm_fu ((0 : Int32), (0 : Int32))) fun e5 => mm_u2 (fun x1_6 x2_7 => some x1_6) e5
def rm_X7_laidCells : Room := { frames := 1, cells := 0, slots := 0, locals := 20 }
set_option maxHeartbeats 4000000 in
set_option maxRecDepth 100000 in
theorem jj_X7_laidCells (l : Launch) (g : mm_G) (A : Nat → Prop) (M : mm_M) (x0 : Nat) (r : Int32) (hf : ff_X7_laidCells M x0 = some r) : Met l yX7_laidCells (mm_ws yX7_laidCells cX7_laidCells 3 (Option.some Jvm.ClassFile.FieldType.int)) rm_X7_laidCells (va_Pc [.ref x0] (mm_B g A M)) (mm_Ti g A r M) 0 0 A := by
  refine mm_met (g := g) (lv := [(0, .ref x0)]) (fun U h => h.2) (by decide +kernel) (Nat.le_of_ble_eq_true rfl) rfl ?_
  intro p e s m args below meth c ls C hr hnm hB hl
  obtain ⟨hR, hK⟩ := hB
  have hx := C.1
  have hb := C.2.1
  suffices hmain : ∀ (H : Heap) (locs : List Loc), mm_R g A M H → va_S A s.heap H locs → W p l e rm_X7_laidCells s m args below meth c H locs 0 0 (MQ below (mm_Ti g A r M) args s 0 0 A) (F0 m 0 ls []) from hmain _ _ hR va_S.rf
  clear hR
  intro H locs hR hS
  have L4 : ∀ (x0 : Nat) (e1 : Int32 × Int32) (hX : ∀ (x1 : Int32) (x2 : Int32), e1 = (x1, x2) → ∀ (H : Heap) (locs : List Loc) (ls : Array Slot), mm_R g A M H → va_S A s.heap H locs → lv_has ls 3 [(1, .int x1)] → W p l e rm_X7_laidCells s m args below meth c H locs 0 0 (MQ below (mm_Ti g A r M) args s 0 0 A) (F0 m 40 ls [])) (n : Nat) (x1 : Int32) (x2 : Int32), mm_it (mm_u2 (ff_X7_laidCells_l4 M x0)) n (x1, x2) = some e1 → ∀ (H : Heap) (locs : List Loc) (ls : Array Slot), mm_R g A M H → va_S A s.heap H locs → lv_has ls 3 [(0, .ref x0), (1, .int x1), (2, .int x2)] → W p l e rm_X7_laidCells s m args below meth c H locs 0 0 (MQ below (mm_Ti g A r M) args s 0 0 A) (F0 m 4 ls []) := by
    intro x0 e1 hX n x1 x2 hit
    refine mm_itW (Hd := fun st => ∀ (H : Heap) (locs : List Loc) (ls : Array Slot), mm_R g A M H → va_S A s.heap H locs → lv_has ls 3 [(0, .ref x0), (1, .int st.1), (2, .int st.2)] → W p l e rm_X7_laidCells s m args below meth c H locs 0 0 (MQ below (mm_Ti g A r M) args s 0 0 A) (F0 m 4 ls [])) (fun st y hf hin hout => ?_) n (x1, x2) hit
    obtain ⟨x1, x2⟩ := st
    have hf := mm_u2e hf
    have J32 : ∀ (x2 : Int32) (y0 : Int32) (y1 : Int32) (H : Heap) (locs : List Loc) (ls : Array Slot), mm_R g A M H → va_S A s.heap H locs → lv_has ls 3 [(0, .ref x0), (2, .int x2)] → ff_X7_laidCells_j32 M x0 x2 y0 y1 = some y → W p l e rm_X7_laidCells s m args below meth c H locs 0 0 (MQ below (mm_Ti g A r M) args s 0 0 A) (F0 m 32 ls [.int y0, .int y1]) := by
      intro x2 y0 y1 H locs ls hR hS hl hf
      unfold ff_X7_laidCells_j32 at hf
      refine lv_iadd hx hb dX7_laidCells_32 ?_
      refine lv_istore_n (lv' := [(1, .int (y1 + y0)), (0, .ref x0), (2, .int x2)]) hx hb dX7_laidCells_33 rfl hl (by decide) rfl (fun ls hl => ?_)
      refine lv_iinc (v := (x2 + (1 : Int32))) (lv' := [(2, .int (x2 + (1 : Int32))), (1, .int (y1 + y0)), (0, .ref x0)]) hx hb dX7_laidCells_34 hl (k := 2) rfl rfl (by decide) rfl (fun ls hl => ?_)
      refine lv_goto (tgt := 4) hx hb dX7_laidCells_37 (by decide) ?_
      exact hin _ (Option.some.inj hf).symm H locs ls hR hS (lv_sub hl [2, 1, 0] rfl)
    intro H locs ls hR hS hl
    unfold ff_X7_laidCells_l4 at hf
    refine lv_iload_n hx hb dX7_laidCells_4 rfl (lv_at hl 2 rfl) ?_
    refine lv_aload_n hx hb dX7_laidCells_5 rfl (lv_at hl 0 rfl) ?_
    obtain ⟨u1, eu1, hf⟩ := mm_bd hf
    obtain ⟨v2, ev2, hf⟩ := mm_bd hf
    refine mm_callVi (As := []) (rest := [.int x2]) C hR hS hl.1 vs_X7_41 eu1 (jj_X7_cells l g A M x0 v2 ev2) ⟨rfl, rfl, (Nat.le_of_ble_eq_true rfl), (Nat.le_of_ble_eq_true rfl)⟩ rfl (Nat.le_of_ble_eq_true rfl) ⟨Nat.zero_le _, Nat.zero_le _⟩ rfl dX7_laidCells_6 (fun H locs hR hS => ?_)
    refine lv_icmp_ge (tgt := 40) hx hb dX7_laidCells_9 (by decide) (fun hc => ?_) (fun hc => ?_)
    · have hf := mm_if1 hc hf
      exact hX _ _ (hout _ (Option.some.inj hf).symm).symm H locs ls hR hS (lv_sub hl [1] rfl)
    · have hf := mm_if0 hc hf
      refine lv_iload_n hx hb dX7_laidCells_12 rfl (lv_at hl 1 rfl) ?_
      refine lv_aload_n hx hb dX7_laidCells_13 rfl (lv_at hl 0 rfl) ?_
      obtain ⟨v3, ev3, hf⟩ := mm_bd hf
      refine mm_getR C hR fs_X7_7 ev3 dX7_laidCells_14 ?_
      refine lv_sipush (v := 164) hx hb dX7_laidCells_17 (by decide) ?_
      refine lv_iload_n hx hb dX7_laidCells_20 rfl (lv_at hl 2 rfl) ?_
      refine lv_iadd hx hb dX7_laidCells_21 ?_
      obtain ⟨v4, ev4, hf⟩ := mm_bd hf
      refine mm_iald C hR ev4 dX7_laidCells_22 ?_
      refine lv_iconst (v := -1) hx hb dX7_laidCells_23 (by decide) ?_
      refine lv_icmp_eq (tgt := 31) hx hb dX7_laidCells_24 (by decide) (fun hc => ?_) (fun hc => ?_)
      · have hf := mm_if1 hc hf
        refine lv_iconst (v := 0) hx hb dX7_laidCells_31 (by decide) ?_
        exact J32 x2 (0 : Int32) x1 H locs ls hR hS (lv_sub hl [0, 2] rfl) hf
      · have hf := mm_if0 hc hf
        refine lv_iconst (v := 1) hx hb dX7_laidCells_27 (by decide) ?_
        refine lv_goto (tgt := 32) hx hb dX7_laidCells_28 (by decide) ?_
        exact J32 x2 (1 : Int32) x1 H locs ls hR hS (lv_sub hl [0, 2] rfl) hf
  unfold ff_X7_laidCells at hf
  refine lv_iconst (v := 0) hx hb dX7_laidCells_0 (by decide) ?_
  refine lv_istore_n (lv' := [(1, .int (0 : Int32)), (0, .ref x0)]) hx hb dX7_laidCells_1 rfl hl (by decide) rfl (fun ls hl => ?_)
  refine lv_iconst (v := 0) hx hb dX7_laidCells_2 (by decide) ?_
  refine lv_istore_n (lv' := [(2, .int (0 : Int32)), (1, .int (0 : Int32)), (0, .ref x0)]) hx hb dX7_laidCells_3 rfl hl (by decide) rfl (fun ls hl => ?_)
  obtain ⟨e5, he5, hf⟩ := mm_bd hf
  refine L4 x0 e5 (fun x1_6 x2_7 he => ?_) _ (0 : Int32) (0 : Int32) he5 H locs ls hR hS (lv_sub hl [2, 1, 0] rfl)
  subst he
  intro H locs ls hR hS hl
  have hf := mm_u2e hf
  refine lv_iload_n hx hb dX7_laidCells_40 rfl (lv_at hl 0 rfl) ?_
  exact mm_ire C hR hS hr ((Option.some.inj hf)) rfl dX7_laidCells_41
def ff_X7_around (M : mm_M) (x0 : Nat) : Option Int32 := Option.bind (mm_gR 7 M x0 0) fun v1 => Option.bind (mm_aI 0 M v1 (0 : Int32)) fun v2 => Option.bind (mm_gR 7 M x0 0) fun v3 => Option.bind (mm_aI 0 M v3 (1 : Int32)) fun v4 => some (((2 : Int32) * (v2 + v4)) - (4 : Int32))
def rm_X7_around : Room := { frames := 0, cells := 0, slots := 0, locals := 0 }
set_option maxHeartbeats 4000000 in
set_option maxRecDepth 100000 in
theorem jj_X7_around (l : Launch) (g : mm_G) (A : Nat → Prop) (M : mm_M) (x0 : Nat) (r : Int32) (hf : ff_X7_around M x0 = some r) : Met l yX7_around (mm_ws yX7_around cX7_around 1 (Option.some Jvm.ClassFile.FieldType.int)) rm_X7_around (va_Pc [.ref x0] (mm_B g A M)) (mm_Ti g A r M) 0 0 A := by
  refine mm_met (g := g) (lv := [(0, .ref x0)]) (fun U h => h.2) (by decide +kernel) (Nat.le_of_ble_eq_true rfl) rfl ?_
  intro p e s m args below meth c ls C hr hnm hB hl
  obtain ⟨hR, hK⟩ := hB
  have hx := C.1
  have hb := C.2.1
  suffices hmain : ∀ (H : Heap) (locs : List Loc), mm_R g A M H → va_S A s.heap H locs → W p l e rm_X7_around s m args below meth c H locs 0 0 (MQ below (mm_Ti g A r M) args s 0 0 A) (F0 m 0 ls []) from hmain _ _ hR va_S.rf
  clear hR
  intro H locs hR hS
  unfold ff_X7_around at hf
  refine lv_iconst (v := 2) hx hb dX7_around_0 (by decide) ?_
  refine lv_aload_n hx hb dX7_around_1 rfl (lv_at hl 0 rfl) ?_
  obtain ⟨v1, ev1, hf⟩ := mm_bd hf
  refine mm_getR C hR fs_X7_7 ev1 dX7_around_2 ?_
  refine lv_iconst (v := 0) hx hb dX7_around_5 (by decide) ?_
  obtain ⟨v2, ev2, hf⟩ := mm_bd hf
  refine mm_iald C hR ev2 dX7_around_6 ?_
  refine lv_aload_n hx hb dX7_around_7 rfl (lv_at hl 0 rfl) ?_
  obtain ⟨v3, ev3, hf⟩ := mm_bd hf
  refine mm_getR C hR fs_X7_7 ev3 dX7_around_8 ?_
  refine lv_iconst (v := 1) hx hb dX7_around_11 (by decide) ?_
  obtain ⟨v4, ev4, hf⟩ := mm_bd hf
  refine mm_iald C hR ev4 dX7_around_12 ?_
  refine lv_iadd hx hb dX7_around_13 ?_
  refine lv_imul hx hb dX7_around_14 ?_
  refine lv_iconst (v := 4) hx hb dX7_around_15 (by decide) ?_
  refine lv_isub hx hb dX7_around_16 ?_
  exact mm_ire C hR hS hr ((Option.some.inj hf)) rfl dX7_around_17
def ff_X7_borderOf (M : mm_M) (x0 : Nat) (x1 : Int32) (x2 : Int32) : Option Int32 := Option.bind (mm_gR 7 M x0 0) fun v1 => Option.bind (mm_aI 0 M v1 (0 : Int32)) fun v2 => Option.bind (mm_gR 7 M x0 0) fun v3 => Option.bind (mm_aI 0 M v3 (1 : Int32)) fun v4 => if x2 = (0 : Int32) then (some x1) else (if x1 = (v2 - (1 : Int32)) then (some ((v2 - (1 : Int32)) + x2)) else (if x2 = (v4 - (1 : Int32)) then (some ((((v2 - (1 : Int32)) + (v4 - (1 : Int32))) + (v2 - (1 : Int32))) - x1)) else (if x1 = (0 : Int32) then (some (((((2 : Int32) * (v2 - (1 : Int32))) + (v4 - (1 : Int32))) + (v4 - (1 : Int32))) - x2)) else (some (-1 : Int32)))))
def rm_X7_borderOf : Room := { frames := 0, cells := 0, slots := 0, locals := 0 }
set_option maxHeartbeats 4000000 in
set_option maxRecDepth 100000 in
theorem jj_X7_borderOf (l : Launch) (g : mm_G) (A : Nat → Prop) (M : mm_M) (x0 : Nat) (x1 : Int32) (x2 : Int32) (r : Int32) (hf : ff_X7_borderOf M x0 x1 x2 = some r) : Met l yX7_borderOf (mm_ws yX7_borderOf cX7_borderOf 5 (Option.some Jvm.ClassFile.FieldType.int)) rm_X7_borderOf (va_Pc [.ref x0, .int x1, .int x2] (mm_B g A M)) (mm_Ti g A r M) 0 0 A := by
  refine mm_met (g := g) (lv := [(0, .ref x0), (1, .int x1), (2, .int x2)]) (fun U h => h.2) (by decide +kernel) (Nat.le_of_ble_eq_true rfl) rfl ?_
  intro p e s m args below meth c ls C hr hnm hB hl
  obtain ⟨hR, hK⟩ := hB
  have hx := C.1
  have hb := C.2.1
  suffices hmain : ∀ (H : Heap) (locs : List Loc), mm_R g A M H → va_S A s.heap H locs → W p l e rm_X7_borderOf s m args below meth c H locs 0 0 (MQ below (mm_Ti g A r M) args s 0 0 A) (F0 m 0 ls []) from hmain _ _ hR va_S.rf
  clear hR
  intro H locs hR hS
  unfold ff_X7_borderOf at hf
  refine lv_aload_n hx hb dX7_borderOf_0 rfl (lv_at hl 0 rfl) ?_
  obtain ⟨v1, ev1, hf⟩ := mm_bd hf
  refine mm_getR C hR fs_X7_7 ev1 dX7_borderOf_1 ?_
  refine lv_iconst (v := 0) hx hb dX7_borderOf_4 (by decide) ?_
  obtain ⟨v2, ev2, hf⟩ := mm_bd hf
  refine mm_iald C hR ev2 dX7_borderOf_5 ?_
  refine lv_iconst (v := 1) hx hb dX7_borderOf_6 (by decide) ?_
  refine lv_isub hx hb dX7_borderOf_7 ?_
  refine lv_istore_n (lv' := [(3, .int (v2 - (1 : Int32))), (0, .ref x0), (1, .int x1), (2, .int x2)]) hx hb dX7_borderOf_8 rfl hl (by decide) rfl (fun ls hl => ?_)
  refine lv_aload_n hx hb dX7_borderOf_9 rfl (lv_at hl 1 rfl) ?_
  obtain ⟨v3, ev3, hf⟩ := mm_bd hf
  refine mm_getR C hR fs_X7_7 ev3 dX7_borderOf_10 ?_
  refine lv_iconst (v := 1) hx hb dX7_borderOf_13 (by decide) ?_
  obtain ⟨v4, ev4, hf⟩ := mm_bd hf
  refine mm_iald C hR ev4 dX7_borderOf_14 ?_
  refine lv_iconst (v := 1) hx hb dX7_borderOf_15 (by decide) ?_
  refine lv_isub hx hb dX7_borderOf_16 ?_
  refine lv_istore (lv' := [(4, .int (v4 - (1 : Int32))), (3, .int (v2 - (1 : Int32))), (0, .ref x0), (1, .int x1), (2, .int x2)]) hx hb dX7_borderOf_17 hl (by decide) rfl (fun ls hl => ?_)
  refine lv_iload_n hx hb dX7_borderOf_19 rfl (lv_at hl 4 rfl) ?_
  refine lv_if_ne (tgt := 27) hx hb dX7_borderOf_20 (by decide) (fun hc => ?_) (fun hc => ?_)
  · have hf := mm_if0 hc hf
    refine lv_iload_n hx hb dX7_borderOf_27 rfl (lv_at hl 3 rfl) ?_
    refine lv_iload_n hx hb dX7_borderOf_28 rfl (lv_at hl 1 rfl) ?_
    refine lv_icmp_ne (tgt := 38) hx hb dX7_borderOf_29 (by decide) (fun hc => ?_) (fun hc => ?_)
    · have hf := mm_if0 hc hf
      refine lv_iload_n hx hb dX7_borderOf_38 rfl (lv_at hl 4 rfl) ?_
      refine lv_iload hx hb dX7_borderOf_39 (lv_at hl 0 rfl) ?_
      refine lv_icmp_ne (tgt := 55) hx hb dX7_borderOf_41 (by decide) (fun hc => ?_) (fun hc => ?_)
      · have hf := mm_if0 hc hf
        refine lv_iload_n hx hb dX7_borderOf_55 rfl (lv_at hl 3 rfl) ?_
        refine lv_if_ne (tgt := 73) hx hb dX7_borderOf_56 (by decide) (fun hc => ?_) (fun hc => ?_)
        · have hf := mm_if0 hc hf
          refine lv_iconst (v := -1) hx hb dX7_borderOf_73 (by decide) ?_
          exact mm_ire C hR hS hr ((Option.some.inj hf)) rfl dX7_borderOf_74
        · have hf := mm_if1 hc hf
          refine lv_iconst (v := 2) hx hb dX7_borderOf_59 (by decide) ?_
          refine lv_iload_n hx hb dX7_borderOf_60 rfl (lv_at hl 1 rfl) ?_
          refine lv_imul hx hb dX7_borderOf_61 ?_
          refine lv_iload hx hb dX7_borderOf_62 (lv_at hl 0 rfl) ?_
          refine lv_iadd hx hb dX7_borderOf_64 ?_
          refine lv_iload hx hb dX7_borderOf_65 (lv_at hl 0 rfl) ?_
          refine lv_iadd hx hb dX7_borderOf_67 ?_
          refine lv_iload_n hx hb dX7_borderOf_68 rfl (lv_at hl 4 rfl) ?_
          refine lv_isub hx hb dX7_borderOf_69 ?_
          refine lv_goto (tgt := 74) hx hb dX7_borderOf_70 (by decide) ?_
          exact mm_ire C hR hS hr ((Option.some.inj hf)) rfl dX7_borderOf_74
      · have hf := mm_if1 hc hf
        refine lv_iload_n hx hb dX7_borderOf_44 rfl (lv_at hl 1 rfl) ?_
        refine lv_iload hx hb dX7_borderOf_45 (lv_at hl 0 rfl) ?_
        refine lv_iadd hx hb dX7_borderOf_47 ?_
        refine lv_iload_n hx hb dX7_borderOf_48 rfl (lv_at hl 1 rfl) ?_
        refine lv_iadd hx hb dX7_borderOf_49 ?_
        refine lv_iload_n hx hb dX7_borderOf_50 rfl (lv_at hl 3 rfl) ?_
        refine lv_isub hx hb dX7_borderOf_51 ?_
        refine lv_goto (tgt := 74) hx hb dX7_borderOf_52 (by decide) ?_
        exact mm_ire C hR hS hr ((Option.some.inj hf)) rfl dX7_borderOf_74
    · have hf := mm_if1 hc hf
      refine lv_iload_n hx hb dX7_borderOf_32 rfl (lv_at hl 1 rfl) ?_
      refine lv_iload_n hx hb dX7_borderOf_33 rfl (lv_at hl 4 rfl) ?_
      refine lv_iadd hx hb dX7_borderOf_34 ?_
      refine lv_goto (tgt := 74) hx hb dX7_borderOf_35 (by decide) ?_
      exact mm_ire C hR hS hr ((Option.some.inj hf)) rfl dX7_borderOf_74
  · have hf := mm_if1 hc hf
    refine lv_iload_n hx hb dX7_borderOf_23 rfl (lv_at hl 3 rfl) ?_
    refine lv_goto (tgt := 74) hx hb dX7_borderOf_24 (by decide) ?_
    exact mm_ire C hR hS hr ((Option.some.inj hf)) rfl dX7_borderOf_74
def ff_X7_borderWants_j118 (M : mm_M) (x0 : Nat) (x4 : Int32) (y0 : Int32) : Option (Int32) := Option.bind (mm_gR 7 M x0 0) fun v7 => Option.bind (mm_aI 0 M v7 (5 : Int32)) fun v8 => if v8 = (1 : Int32) then (Option.bind (mm_gR 7 M x0 0) fun v18 => Option.bind (ff_X7_lesser M x4 (y0 - x4)) fun v19 => Option.bind (mm_gR 7 M x0 0) fun v20 => Option.bind (mm_aI 0 M v20 (4 : Int32)) fun v21 => Option.bind (mm_rm v19 v21) fun v22 => Option.bind (mm_aI 0 M v18 ((12 : Int32) + v22)) fun v23 => some v23) else (Option.bind (mm_gR 7 M x0 0) fun v9 => Option.bind (mm_gR 7 M x0 0) fun v10 => Option.bind (mm_aI 0 M v10 (4 : Int32)) fun v11 => Option.bind (mm_rm y0 v11) fun v12 => if x4 < (y0 - v12) then (Option.bind (mm_gR 7 M x0 0) fun v13 => Option.bind (mm_aI 0 M v13 (4 : Int32)) fun v14 => Option.bind (mm_rm x4 v14) fun v15 => Option.bind (mm_aI 0 M v9 ((12 : Int32) + v15)) fun v16 => some v16) else (Option.bind (mm_aI 0 M v9 ((12 : Int32) + (0 : Int32))) fun v17 => some v17))
def ff_X7_borderWants_j113 (M : mm_M) (x0 : Nat) (x2 : Int32) (x4 : Int32) : Option (Int32) := ff_X7_borderWants_j118 M x0 x4 x2
def ff_X7_borderWants_j117 (M : mm_M) (x0 : Nat) (x3 : Int32) (x4 : Int32) : Option (Int32) := ff_X7_borderWants_j118 M x0 x4 x3
def ff_X7_borderWants_j90 (M : mm_M) (x0 : Nat) (x1 : Int32) (x2 : Int32) (x3 : Int32) (y0 : Int32) : Option (Int32) := if x1 < x2 then (ff_X7_borderWants_j113 M x0 x2 y0) else (if x1 < (x2 + x3) then (ff_X7_borderWants_j117 M x0 x3 y0) else (if (((2 : Int32) * x2) + x3) ≤ x1 then (ff_X7_borderWants_j117 M x0 x3 y0) else (ff_X7_borderWants_j113 M x0 x2 y0)))
def ff_X7_borderWants (M : mm_M) (x0 : Nat) (x1 : Int32) : Option Int32 := Option.bind (mm_gR 7 M x0 0) fun v1 => Option.bind (mm_aI 0 M v1 (5 : Int32)) fun v2 => if v2 = (0 : Int32) then (Option.bind (mm_gR 7 M x0 0) fun v24 => Option.bind (mm_gR 7 M x0 0) fun v25 => Option.bind (mm_aI 0 M v25 (4 : Int32)) fun v26 => Option.bind (mm_rm x1 v26) fun v27 => Option.bind (mm_aI 0 M v24 ((12 : Int32) + v27)) fun v28 => some v28) else (Option.bind (mm_gR 7 M x0 0) fun v3 => Option.bind (mm_aI 0 M v3 (0 : Int32)) fun v4 => Option.bind (mm_gR 7 M x0 0) fun v5 => Option.bind (mm_aI 0 M v5 (1 : Int32)) fun v6 => if (v4 - (1 : Int32)) ≤ x1 then (if ((v4 - (1 : Int32)) + (v6 - (1 : Int32))) ≤ x1 then (if (((2 : Int32) * (v4 - (1 : Int32))) + (v6 - (1 : Int32))) ≤ x1 then (ff_X7_borderWants_j90 M x0 x1 (v4 - (1 : Int32)) (v6 - (1 : Int32)) ((x1 - ((2 : Int32) * (v4 - (1 : Int32)))) - (v6 - (1 : Int32)))) else (ff_X7_borderWants_j90 M x0 x1 (v4 - (1 : Int32)) (v6 - (1 : Int32)) ((x1 - (v4 - (1 : Int32))) - (v6 - (1 : Int32))))) else (ff_X7_borderWants_j90 M x0 x1 (v4 - (1 : Int32)) (v6 - (1 : Int32)) (x1 - (v4 - (1 : Int32))))) else (ff_X7_borderWants_j90 M x0 x1 (v4 - (1 : Int32)) (v6 - (1 : Int32)) x1))
def rm_X7_borderWants : Room := { frames := 1, cells := 0, slots := 0, locals := 21 }
set_option maxHeartbeats 4000000 in
set_option maxRecDepth 100000 in
theorem jj_X7_borderWants (l : Launch) (g : mm_G) (A : Nat → Prop) (M : mm_M) (x0 : Nat) (x1 : Int32) (r : Int32) (hf : ff_X7_borderWants M x0 x1 = some r) : Met l yX7_borderWants (mm_ws yX7_borderWants cX7_borderWants 6 (Option.some Jvm.ClassFile.FieldType.int)) rm_X7_borderWants (va_Pc [.ref x0, .int x1] (mm_B g A M)) (mm_Ti g A r M) 0 0 A := by
  refine mm_met (g := g) (lv := [(0, .ref x0), (1, .int x1)]) (fun U h => h.2) (by decide +kernel) (Nat.le_of_ble_eq_true rfl) rfl ?_
  intro p e s m args below meth c ls C hr hnm hB hl
  obtain ⟨hR, hK⟩ := hB
  have hx := C.1
  have hb := C.2.1
  suffices hmain : ∀ (H : Heap) (locs : List Loc), mm_R g A M H → va_S A s.heap H locs → W p l e rm_X7_borderWants s m args below meth c H locs 0 0 (MQ below (mm_Ti g A r M) args s 0 0 A) (F0 m 0 ls []) from hmain _ _ hR va_S.rf
  clear hR
  intro H locs hR hS
  have J118 : ∀ (x0 : Nat) (x4 : Int32) (y0 : Int32) (H : Heap) (locs : List Loc) (ls : Array Slot), mm_R g A M H → va_S A s.heap H locs → lv_has ls 6 [(0, .ref x0), (4, .int x4)] → ff_X7_borderWants_j118 M x0 x4 y0 = some r → W p l e rm_X7_borderWants s m args below meth c H locs 0 0 (MQ below (mm_Ti g A r M) args s 0 0 A) (F0 m 118 ls [.int y0]) := by
    intro x0 x4 y0 H locs ls hR hS hl hf
    unfold ff_X7_borderWants_j118 at hf
    refine lv_istore (lv' := [(5, .int y0), (0, .ref x0), (4, .int x4)]) hx hb dX7_borderWants_118 hl (by decide) rfl (fun ls hl => ?_)
    refine lv_aload_n hx hb dX7_borderWants_120 rfl (lv_at hl 1 rfl) ?_
    obtain ⟨v7, ev7, hf⟩ := mm_bd hf
    refine mm_getR C hR fs_X7_7 ev7 dX7_borderWants_121 ?_
    refine lv_iconst (v := 5) hx hb dX7_borderWants_124 (by decide) ?_
    obtain ⟨v8, ev8, hf⟩ := mm_bd hf
    refine mm_iald C hR ev8 dX7_borderWants_125 ?_
    refine lv_iconst (v := 1) hx hb dX7_borderWants_126 (by decide) ?_
    refine lv_icmp_ne (tgt := 156) hx hb dX7_borderWants_127 (by decide) (fun hc => ?_) (fun hc => ?_)
    · have hf := mm_if0 hc hf
      refine lv_aload_n hx hb dX7_borderWants_156 rfl (lv_at hl 1 rfl) ?_
      obtain ⟨v9, ev9, hf⟩ := mm_bd hf
      refine mm_getR C hR fs_X7_7 ev9 dX7_borderWants_157 ?_
      refine lv_bipush (v := 12) hx hb dX7_borderWants_160 (by decide) ?_
      refine lv_iload hx hb dX7_borderWants_162 (lv_at hl 2 rfl) ?_
      refine lv_iload hx hb dX7_borderWants_164 (lv_at hl 0 rfl) ?_
      refine lv_iload hx hb dX7_borderWants_166 (lv_at hl 0 rfl) ?_
      refine lv_aload_n hx hb dX7_borderWants_168 rfl (lv_at hl 1 rfl) ?_
      obtain ⟨v10, ev10, hf⟩ := mm_bd hf
      refine mm_getR C hR fs_X7_7 ev10 dX7_borderWants_169 ?_
      refine lv_iconst (v := 4) hx hb dX7_borderWants_172 (by decide) ?_
      obtain ⟨v11, ev11, hf⟩ := mm_bd hf
      refine mm_iald C hR ev11 dX7_borderWants_173 ?_
      obtain ⟨v12, ev12, hf⟩ := mm_bd hf
      refine mm_irem C ev12 dX7_borderWants_174 ?_
      refine lv_isub hx hb dX7_borderWants_175 ?_
      refine lv_icmp_lt (tgt := 183) hx hb dX7_borderWants_176 (by decide) (fun hc => ?_) (fun hc => ?_)
      · have hf := mm_if1 hc hf
        refine lv_iload hx hb dX7_borderWants_183 (lv_at hl 2 rfl) ?_
        refine lv_aload_n hx hb dX7_borderWants_185 rfl (lv_at hl 1 rfl) ?_
        obtain ⟨v13, ev13, hf⟩ := mm_bd hf
        refine mm_getR C hR fs_X7_7 ev13 dX7_borderWants_186 ?_
        refine lv_iconst (v := 4) hx hb dX7_borderWants_189 (by decide) ?_
        obtain ⟨v14, ev14, hf⟩ := mm_bd hf
        refine mm_iald C hR ev14 dX7_borderWants_190 ?_
        obtain ⟨v15, ev15, hf⟩ := mm_bd hf
        refine mm_irem C ev15 dX7_borderWants_191 ?_
        refine lv_iadd hx hb dX7_borderWants_192 ?_
        obtain ⟨v16, ev16, hf⟩ := mm_bd hf
        refine mm_iald C hR ev16 dX7_borderWants_193 ?_
        exact mm_ire C hR hS hr ((Option.some.inj hf)) rfl dX7_borderWants_194
      · have hf := mm_if0 hc hf
        refine lv_iconst (v := 0) hx hb dX7_borderWants_179 (by decide) ?_
        refine lv_goto (tgt := 192) hx hb dX7_borderWants_180 (by decide) ?_
        refine lv_iadd hx hb dX7_borderWants_192 ?_
        obtain ⟨v17, ev17, hf⟩ := mm_bd hf
        refine mm_iald C hR ev17 dX7_borderWants_193 ?_
        exact mm_ire C hR hS hr ((Option.some.inj hf)) rfl dX7_borderWants_194
    · have hf := mm_if1 hc hf
      refine lv_aload_n hx hb dX7_borderWants_130 rfl (lv_at hl 1 rfl) ?_
      obtain ⟨v18, ev18, hf⟩ := mm_bd hf
      refine mm_getR C hR fs_X7_7 ev18 dX7_borderWants_131 ?_
      refine lv_bipush (v := 12) hx hb dX7_borderWants_134 (by decide) ?_
      refine lv_iload hx hb dX7_borderWants_136 (lv_at hl 2 rfl) ?_
      refine lv_iload hx hb dX7_borderWants_138 (lv_at hl 0 rfl) ?_
      refine lv_iload hx hb dX7_borderWants_140 (lv_at hl 2 rfl) ?_
      refine lv_isub hx hb dX7_borderWants_142 ?_
      obtain ⟨v19, ev19, hf⟩ := mm_bd hf
      refine mm_callSi (As := [.int x4, .int (y0 - x4)]) (rest := [.int (12 : Int32), .ref v18]) C hR hS hl.1 ss_X7_45 (jj_X7_lesser l g A M x4 (y0 - x4) v19 ev19) ⟨rfl, rfl, (Nat.le_of_ble_eq_true rfl), (Nat.le_of_ble_eq_true rfl)⟩ rfl (Nat.le_of_ble_eq_true rfl) ⟨Nat.zero_le _, Nat.zero_le _⟩ rfl dX7_borderWants_143 (fun H locs hR hS => ?_)
      refine lv_aload_n hx hb dX7_borderWants_146 rfl (lv_at hl 1 rfl) ?_
      obtain ⟨v20, ev20, hf⟩ := mm_bd hf
      refine mm_getR C hR fs_X7_7 ev20 dX7_borderWants_147 ?_
      refine lv_iconst (v := 4) hx hb dX7_borderWants_150 (by decide) ?_
      obtain ⟨v21, ev21, hf⟩ := mm_bd hf
      refine mm_iald C hR ev21 dX7_borderWants_151 ?_
      obtain ⟨v22, ev22, hf⟩ := mm_bd hf
      refine mm_irem C ev22 dX7_borderWants_152 ?_
      refine lv_iadd hx hb dX7_borderWants_153 ?_
      obtain ⟨v23, ev23, hf⟩ := mm_bd hf
      refine mm_iald C hR ev23 dX7_borderWants_154 ?_
      exact mm_ire C hR hS hr ((Option.some.inj hf)) rfl dX7_borderWants_155
  have J117 : ∀ (x0 : Nat) (x3 : Int32) (x4 : Int32) (H : Heap) (locs : List Loc) (ls : Array Slot), mm_R g A M H → va_S A s.heap H locs → lv_has ls 6 [(0, .ref x0), (3, .int x3), (4, .int x4)] → ff_X7_borderWants_j117 M x0 x3 x4 = some r → W p l e rm_X7_borderWants s m args below meth c H locs 0 0 (MQ below (mm_Ti g A r M) args s 0 0 A) (F0 m 117 ls []) := by
    intro x0 x3 x4 H locs ls hR hS hl hf
    unfold ff_X7_borderWants_j117 at hf
    refine lv_iload_n hx hb dX7_borderWants_117 rfl (lv_at hl 1 rfl) ?_
    exact J118 x0 x4 x3 H locs ls hR hS (lv_sub hl [0, 2] rfl) hf
  have J113 : ∀ (x0 : Nat) (x2 : Int32) (x4 : Int32) (H : Heap) (locs : List Loc) (ls : Array Slot), mm_R g A M H → va_S A s.heap H locs → lv_has ls 6 [(0, .ref x0), (2, .int x2), (4, .int x4)] → ff_X7_borderWants_j113 M x0 x2 x4 = some r → W p l e rm_X7_borderWants s m args below meth c H locs 0 0 (MQ below (mm_Ti g A r M) args s 0 0 A) (F0 m 113 ls []) := by
    intro x0 x2 x4 H locs ls hR hS hl hf
    unfold ff_X7_borderWants_j113 at hf
    refine lv_iload_n hx hb dX7_borderWants_113 rfl (lv_at hl 1 rfl) ?_
    refine lv_goto (tgt := 118) hx hb dX7_borderWants_114 (by decide) ?_
    exact J118 x0 x4 x2 H locs ls hR hS (lv_sub hl [0, 2] rfl) hf
  have J90 : ∀ (x0 : Nat) (x1 : Int32) (x2 : Int32) (x3 : Int32) (y0 : Int32) (H : Heap) (locs : List Loc) (ls : Array Slot), mm_R g A M H → va_S A s.heap H locs → lv_has ls 6 [(0, .ref x0), (1, .int x1), (2, .int x2), (3, .int x3)] → ff_X7_borderWants_j90 M x0 x1 x2 x3 y0 = some r → W p l e rm_X7_borderWants s m args below meth c H locs 0 0 (MQ below (mm_Ti g A r M) args s 0 0 A) (F0 m 90 ls [.int y0]) := by
    intro x0 x1 x2 x3 y0 H locs ls hR hS hl hf
    unfold ff_X7_borderWants_j90 at hf
    refine lv_istore (lv' := [(4, .int y0), (0, .ref x0), (1, .int x1), (2, .int x2), (3, .int x3)]) hx hb dX7_borderWants_90 hl (by decide) rfl (fun ls hl => ?_)
    refine lv_iload_n hx hb dX7_borderWants_92 rfl (lv_at hl 2 rfl) ?_
    refine lv_iload_n hx hb dX7_borderWants_93 rfl (lv_at hl 3 rfl) ?_
    refine lv_icmp_lt (tgt := 113) hx hb dX7_borderWants_94 (by decide) (fun hc => ?_) (fun hc => ?_)
    · have hf := mm_if1 hc hf
      exact J113 x0 x2 y0 H locs ls hR hS (lv_sub hl [1, 3, 0] rfl) hf
    · have hf := mm_if0 hc hf
      refine lv_iload_n hx hb dX7_borderWants_97 rfl (lv_at hl 2 rfl) ?_
      refine lv_iload_n hx hb dX7_borderWants_98 rfl (lv_at hl 3 rfl) ?_
      refine lv_iload_n hx hb dX7_borderWants_99 rfl (lv_at hl 4 rfl) ?_
      refine lv_iadd hx hb dX7_borderWants_100 ?_
      refine lv_icmp_lt (tgt := 117) hx hb dX7_borderWants_101 (by decide) (fun hc => ?_) (fun hc => ?_)
      · have hf := mm_if1 hc hf
        exact J117 x0 x3 y0 H locs ls hR hS (lv_sub hl [1, 4, 0] rfl) hf
      · have hf := mm_if0 hc hf
        refine lv_iload_n hx hb dX7_borderWants_104 rfl (lv_at hl 2 rfl) ?_
        refine lv_iconst (v := 2) hx hb dX7_borderWants_105 (by decide) ?_
        refine lv_iload_n hx hb dX7_borderWants_106 rfl (lv_at hl 3 rfl) ?_
        refine lv_imul hx hb dX7_borderWants_107 ?_
        refine lv_iload_n hx hb dX7_borderWants_108 rfl (lv_at hl 4 rfl) ?_
        refine lv_iadd hx hb dX7_borderWants_109 ?_
        refine lv_icmp_ge (tgt := 117) hx hb dX7_borderWants_110 (by decide) (fun hc => ?_) (fun hc => ?_)
        · have hf := mm_if1 hc hf
          exact J117 x0 x3 y0 H locs ls hR hS (lv_sub hl [1, 4, 0] rfl) hf
        · have hf := mm_if0 hc hf
          exact J113 x0 x2 y0 H locs ls hR hS (lv_sub hl [1, 3, 0] rfl) hf
  unfold ff_X7_borderWants at hf
  refine lv_aload_n hx hb dX7_borderWants_0 rfl (lv_at hl 0 rfl) ?_
  obtain ⟨v1, ev1, hf⟩ := mm_bd hf
  refine mm_getR C hR fs_X7_7 ev1 dX7_borderWants_1 ?_
  refine lv_iconst (v := 5) hx hb dX7_borderWants_4 (by decide) ?_
  obtain ⟨v2, ev2, hf⟩ := mm_bd hf
  refine mm_iald C hR ev2 dX7_borderWants_5 ?_
  refine lv_if_ne (tgt := 26) hx hb dX7_borderWants_6 (by decide) (fun hc => ?_) (fun hc => ?_)
  · have hf := mm_if0 hc hf
    refine lv_aload_n hx hb dX7_borderWants_26 rfl (lv_at hl 0 rfl) ?_
    obtain ⟨v3, ev3, hf⟩ := mm_bd hf
    refine mm_getR C hR fs_X7_7 ev3 dX7_borderWants_27 ?_
    refine lv_iconst (v := 0) hx hb dX7_borderWants_30 (by decide) ?_
    obtain ⟨v4, ev4, hf⟩ := mm_bd hf
    refine mm_iald C hR ev4 dX7_borderWants_31 ?_
    refine lv_iconst (v := 1) hx hb dX7_borderWants_32 (by decide) ?_
    refine lv_isub hx hb dX7_borderWants_33 ?_
    refine lv_istore_n (lv' := [(2, .int (v4 - (1 : Int32))), (0, .ref x0), (1, .int x1)]) hx hb dX7_borderWants_34 rfl hl (by decide) rfl (fun ls hl => ?_)
    refine lv_aload_n hx hb dX7_borderWants_35 rfl (lv_at hl 1 rfl) ?_
    obtain ⟨v5, ev5, hf⟩ := mm_bd hf
    refine mm_getR C hR fs_X7_7 ev5 dX7_borderWants_36 ?_
    refine lv_iconst (v := 1) hx hb dX7_borderWants_39 (by decide) ?_
    obtain ⟨v6, ev6, hf⟩ := mm_bd hf
    refine mm_iald C hR ev6 dX7_borderWants_40 ?_
    refine lv_iconst (v := 1) hx hb dX7_borderWants_41 (by decide) ?_
    refine lv_isub hx hb dX7_borderWants_42 ?_
    refine lv_istore_n (lv' := [(3, .int (v6 - (1 : Int32))), (2, .int (v4 - (1 : Int32))), (0, .ref x0), (1, .int x1)]) hx hb dX7_borderWants_43 rfl hl (by decide) rfl (fun ls hl => ?_)
    refine lv_iload_n hx hb dX7_borderWants_44 rfl (lv_at hl 3 rfl) ?_
    refine lv_iload_n hx hb dX7_borderWants_45 rfl (lv_at hl 1 rfl) ?_
    refine lv_icmp_ge (tgt := 53) hx hb dX7_borderWants_46 (by decide) (fun hc => ?_) (fun hc => ?_)
    · have hf := mm_if1 hc hf
      refine lv_iload_n hx hb dX7_borderWants_53 rfl (lv_at hl 3 rfl) ?_
      refine lv_iload_n hx hb dX7_borderWants_54 rfl (lv_at hl 1 rfl) ?_
      refine lv_iload_n hx hb dX7_borderWants_55 rfl (lv_at hl 0 rfl) ?_
      refine lv_iadd hx hb dX7_borderWants_56 ?_
      refine lv_icmp_ge (tgt := 66) hx hb dX7_borderWants_57 (by decide) (fun hc => ?_) (fun hc => ?_)
      · have hf := mm_if1 hc hf
        refine lv_iload_n hx hb dX7_borderWants_66 rfl (lv_at hl 3 rfl) ?_
        refine lv_iconst (v := 2) hx hb dX7_borderWants_67 (by decide) ?_
        refine lv_iload_n hx hb dX7_borderWants_68 rfl (lv_at hl 1 rfl) ?_
        refine lv_imul hx hb dX7_borderWants_69 ?_
        refine lv_iload_n hx hb dX7_borderWants_70 rfl (lv_at hl 0 rfl) ?_
        refine lv_iadd hx hb dX7_borderWants_71 ?_
        refine lv_icmp_ge (tgt := 83) hx hb dX7_borderWants_72 (by decide) (fun hc => ?_) (fun hc => ?_)
        · have hf := mm_if1 hc hf
          refine lv_iload_n hx hb dX7_borderWants_83 rfl (lv_at hl 3 rfl) ?_
          refine lv_iconst (v := 2) hx hb dX7_borderWants_84 (by decide) ?_
          refine lv_iload_n hx hb dX7_borderWants_85 rfl (lv_at hl 1 rfl) ?_
          refine lv_imul hx hb dX7_borderWants_86 ?_
          refine lv_isub hx hb dX7_borderWants_87 ?_
          refine lv_iload_n hx hb dX7_borderWants_88 rfl (lv_at hl 0 rfl) ?_
          refine lv_isub hx hb dX7_borderWants_89 ?_
          exact J90 x0 x1 (v4 - (1 : Int32)) (v6 - (1 : Int32)) ((x1 - ((2 : Int32) * (v4 - (1 : Int32)))) - (v6 - (1 : Int32))) H locs ls hR hS (lv_sub hl [2, 3, 1, 0] rfl) hf
        · have hf := mm_if0 hc hf
          refine lv_iload_n hx hb dX7_borderWants_75 rfl (lv_at hl 3 rfl) ?_
          refine lv_iload_n hx hb dX7_borderWants_76 rfl (lv_at hl 1 rfl) ?_
          refine lv_isub hx hb dX7_borderWants_77 ?_
          refine lv_iload_n hx hb dX7_borderWants_78 rfl (lv_at hl 0 rfl) ?_
          refine lv_isub hx hb dX7_borderWants_79 ?_
          refine lv_goto (tgt := 90) hx hb dX7_borderWants_80 (by decide) ?_
          exact J90 x0 x1 (v4 - (1 : Int32)) (v6 - (1 : Int32)) ((x1 - (v4 - (1 : Int32))) - (v6 - (1 : Int32))) H locs ls hR hS (lv_sub hl [2, 3, 1, 0] rfl) hf
      · have hf := mm_if0 hc hf
        refine lv_iload_n hx hb dX7_borderWants_60 rfl (lv_at hl 3 rfl) ?_
        refine lv_iload_n hx hb dX7_borderWants_61 rfl (lv_at hl 1 rfl) ?_
        refine lv_isub hx hb dX7_borderWants_62 ?_
        refine lv_goto (tgt := 90) hx hb dX7_borderWants_63 (by decide) ?_
        exact J90 x0 x1 (v4 - (1 : Int32)) (v6 - (1 : Int32)) (x1 - (v4 - (1 : Int32))) H locs ls hR hS (lv_sub hl [2, 3, 1, 0] rfl) hf
    · have hf := mm_if0 hc hf
      refine lv_iload_n hx hb dX7_borderWants_49 rfl (lv_at hl 3 rfl) ?_
      refine lv_goto (tgt := 90) hx hb dX7_borderWants_50 (by decide) ?_
      exact J90 x0 x1 (v4 - (1 : Int32)) (v6 - (1 : Int32)) x1 H locs ls hR hS (lv_sub hl [2, 3, 1, 0] rfl) hf
  · have hf := mm_if1 hc hf
    refine lv_aload_n hx hb dX7_borderWants_9 rfl (lv_at hl 0 rfl) ?_
    obtain ⟨v24, ev24, hf⟩ := mm_bd hf
    refine mm_getR C hR fs_X7_7 ev24 dX7_borderWants_10 ?_
    refine lv_bipush (v := 12) hx hb dX7_borderWants_13 (by decide) ?_
    refine lv_iload_n hx hb dX7_borderWants_15 rfl (lv_at hl 1 rfl) ?_
    refine lv_aload_n hx hb dX7_borderWants_16 rfl (lv_at hl 0 rfl) ?_
    obtain ⟨v25, ev25, hf⟩ := mm_bd hf
    refine mm_getR C hR fs_X7_7 ev25 dX7_borderWants_17 ?_
    refine lv_iconst (v := 4) hx hb dX7_borderWants_20 (by decide) ?_
    obtain ⟨v26, ev26, hf⟩ := mm_bd hf
    refine mm_iald C hR ev26 dX7_borderWants_21 ?_
    obtain ⟨v27, ev27, hf⟩ := mm_bd hf
    refine mm_irem C ev27 dX7_borderWants_22 ?_
    refine lv_iadd hx hb dX7_borderWants_23 ?_
    obtain ⟨v28, ev28, hf⟩ := mm_bd hf
    refine mm_iald C hR ev28 dX7_borderWants_24 ?_
    exact mm_ire C hR hS hr ((Option.some.inj hf)) rfl dX7_borderWants_25
def ff_X7_wanted (M : mm_M) (x0 : Nat) (x1 : Int32) : Option Int32 := Option.bind (mm_gR 7 M x0 0) fun v1 => Option.bind (mm_aI 0 M v1 (0 : Int32)) fun v2 => Option.bind (mm_rm x1 v2) fun v3 => Option.bind (mm_gR 7 M x0 0) fun v4 => Option.bind (mm_aI 0 M v4 (0 : Int32)) fun v5 => Option.bind (mm_dv x1 v5) fun v6 => Option.bind (mm_ck 7 M x0) fun u7 => Option.bind (ff_X7_borderOf M x0 v3 v6) fun v8 => if v8 = (-1 : Int32) then (Option.bind (mm_gR 7 M x0 0) fun v11 => Option.bind (mm_aI 0 M v11 ((20 : Int32) + x1)) fun v12 => some v12) else (Option.bind (mm_ck 7 M x0) fun u9 => Option.bind (ff_X7_borderWants M x0 v8) fun v10 => some v10)
def rm_X7_wanted : Room := { frames := 2, cells := 0, slots := 0, locals := 46 }
set_option maxHeartbeats 4000000 in
set_option maxRecDepth 100000 in
theorem jj_X7_wanted (l : Launch) (g : mm_G) (A : Nat → Prop) (M : mm_M) (x0 : Nat) (x1 : Int32) (r : Int32) (hf : ff_X7_wanted M x0 x1 = some r) : Met l yX7_wanted (mm_ws yX7_wanted cX7_wanted 3 (Option.some Jvm.ClassFile.FieldType.int)) rm_X7_wanted (va_Pc [.ref x0, .int x1] (mm_B g A M)) (mm_Ti g A r M) 0 0 A := by
  refine mm_met (g := g) (lv := [(0, .ref x0), (1, .int x1)]) (fun U h => h.2) (by decide +kernel) (Nat.le_of_ble_eq_true rfl) rfl ?_
  intro p e s m args below meth c ls C hr hnm hB hl
  obtain ⟨hR, hK⟩ := hB
  have hx := C.1
  have hb := C.2.1
  suffices hmain : ∀ (H : Heap) (locs : List Loc), mm_R g A M H → va_S A s.heap H locs → W p l e rm_X7_wanted s m args below meth c H locs 0 0 (MQ below (mm_Ti g A r M) args s 0 0 A) (F0 m 0 ls []) from hmain _ _ hR va_S.rf
  clear hR
  intro H locs hR hS
  unfold ff_X7_wanted at hf
  refine lv_aload_n hx hb dX7_wanted_0 rfl (lv_at hl 0 rfl) ?_
  refine lv_iload_n hx hb dX7_wanted_1 rfl (lv_at hl 1 rfl) ?_
  refine lv_aload_n hx hb dX7_wanted_2 rfl (lv_at hl 0 rfl) ?_
  obtain ⟨v1, ev1, hf⟩ := mm_bd hf
  refine mm_getR C hR fs_X7_7 ev1 dX7_wanted_3 ?_
  refine lv_iconst (v := 0) hx hb dX7_wanted_6 (by decide) ?_
  obtain ⟨v2, ev2, hf⟩ := mm_bd hf
  refine mm_iald C hR ev2 dX7_wanted_7 ?_
  obtain ⟨v3, ev3, hf⟩ := mm_bd hf
  refine mm_irem C ev3 dX7_wanted_8 ?_
  refine lv_iload_n hx hb dX7_wanted_9 rfl (lv_at hl 1 rfl) ?_
  refine lv_aload_n hx hb dX7_wanted_10 rfl (lv_at hl 0 rfl) ?_
  obtain ⟨v4, ev4, hf⟩ := mm_bd hf
  refine mm_getR C hR fs_X7_7 ev4 dX7_wanted_11 ?_
  refine lv_iconst (v := 0) hx hb dX7_wanted_14 (by decide) ?_
  obtain ⟨v5, ev5, hf⟩ := mm_bd hf
  refine mm_iald C hR ev5 dX7_wanted_15 ?_
  obtain ⟨v6, ev6, hf⟩ := mm_bd hf
  refine mm_idiv C ev6 dX7_wanted_16 ?_
  obtain ⟨u7, eu7, hf⟩ := mm_bd hf
  obtain ⟨v8, ev8, hf⟩ := mm_bd hf
  refine mm_callVi (As := [.int v3, .int v6]) (rest := []) C hR hS hl.1 vs_X7_49 eu7 (jj_X7_borderOf l g A M x0 v3 v6 v8 ev8) ⟨rfl, rfl, (Nat.le_of_ble_eq_true rfl), (Nat.le_of_ble_eq_true rfl)⟩ rfl (Nat.le_of_ble_eq_true rfl) ⟨Nat.zero_le _, Nat.zero_le _⟩ rfl dX7_wanted_17 (fun H locs hR hS => ?_)
  refine lv_istore_n (lv' := [(2, .int v8), (0, .ref x0), (1, .int x1)]) hx hb dX7_wanted_20 rfl hl (by decide) rfl (fun ls hl => ?_)
  refine lv_iload_n hx hb dX7_wanted_21 rfl (lv_at hl 0 rfl) ?_
  refine lv_iconst (v := -1) hx hb dX7_wanted_22 (by decide) ?_
  refine lv_icmp_ne (tgt := 38) hx hb dX7_wanted_23 (by decide) (fun hc => ?_) (fun hc => ?_)
  · have hf := mm_if0 hc hf
    refine lv_aload_n hx hb dX7_wanted_38 rfl (lv_at hl 1 rfl) ?_
    refine lv_iload_n hx hb dX7_wanted_39 rfl (lv_at hl 0 rfl) ?_
    obtain ⟨u9, eu9, hf⟩ := mm_bd hf
    obtain ⟨v10, ev10, hf⟩ := mm_bd hf
    refine mm_callVi (As := [.int v8]) (rest := []) C hR hS hl.1 vs_X7_52 eu9 (jj_X7_borderWants l g A M x0 v8 v10 ev10) ⟨rfl, rfl, (Nat.le_of_ble_eq_true rfl), (Nat.le_of_ble_eq_true rfl)⟩ rfl (Nat.le_of_ble_eq_true rfl) ⟨Nat.zero_le _, Nat.zero_le _⟩ rfl dX7_wanted_40 (fun H locs hR hS => ?_)
    exact mm_ire C hR hS hr ((Option.some.inj hf)) rfl dX7_wanted_43
  · have hf := mm_if1 hc hf
    refine lv_aload_n hx hb dX7_wanted_26 rfl (lv_at hl 1 rfl) ?_
    obtain ⟨v11, ev11, hf⟩ := mm_bd hf
    refine mm_getR C hR fs_X7_7 ev11 dX7_wanted_27 ?_
    refine lv_bipush (v := 20) hx hb dX7_wanted_30 (by decide) ?_
    refine lv_iload_n hx hb dX7_wanted_32 rfl (lv_at hl 2 rfl) ?_
    refine lv_iadd hx hb dX7_wanted_33 ?_
    obtain ⟨v12, ev12, hf⟩ := mm_bd hf
    refine mm_iald C hR ev12 dX7_wanted_34 ?_
    refine lv_goto (tgt := 43) hx hb dX7_wanted_35 (by decide) ?_
    exact mm_ire C hR hS hr ((Option.some.inj hf)) rfl dX7_wanted_43
def ff_X7_meets_j42 (M : mm_M) (x0 : Nat) (x2 : Int32) (y0 : Int32) : Option ((Int32 × Int32) ⊕ (Int32 × Int32)) := some (.inl (y0, (x2 + (1 : Int32))))
def ff_X7_meets_j41 (M : mm_M) (x0 : Nat) (x2 : Int32) : Option ((Int32 × Int32) ⊕ (Int32 × Int32)) := ff_X7_meets_j42 M x0 x2 (0 : Int32)
def ff_X7_meets_l4 (M : mm_M) (x0 : Nat) (x1 : Int32) (x2 : Int32) : Option ((Int32 × Int32) ⊕ (Int32 × Int32)) := Option.bind (mm_gR 7 M x0 0) fun v1 => Option.bind (mm_aI 0 M v1 (4 : Int32)) fun v2 => if v2 ≤ x2 then (some (.inr (x1, x2))) else (if x1 = (0 : Int32) then (ff_X7_meets_j41 M x0 x2) else (Option.bind (mm_gR 7 M x0 0) fun v3 => Option.bind (mm_aI 0 M v3 ((12 : Int32) + x2)) fun v4 => Option.bind (mm_gR 7 M x0 0) fun v5 => Option.bind (mm_aI 0 M v5 (12 : Int32)) fun v6 => if v4 = v6 then (ff_X7_meets_j42 M x0 x2 (1 : Int32)) else (ff_X7_meets_j41 M x0 x2)))
def ff_X7_meets_j90 (M : mm_M) (x0 : Nat) (x1 : Int32) (x3 : Int32) (y0 : Int32) : Option ((Int32 × Int32) ⊕ (Int32 × Int32)) := some (.inl (y0, (x3 + (1 : Int32))))
def ff_X7_meets_j89 (M : mm_M) (x0 : Nat) (x1 : Int32) (x3 : Int32) : Option ((Int32 × Int32) ⊕ (Int32 × Int32)) := ff_X7_meets_j90 M x0 x1 x3 (0 : Int32)
def ff_X7_meets_l53 (M : mm_M) (x0 : Nat) (x1 : Int32) (x2 : Int32) (x3 : Int32) : Option ((Int32 × Int32) ⊕ (Int32 × Int32)) := Option.bind (mm_ck 7 M x0) fun u10 => Option.bind (ff_X7_around M x0) fun v11 => if v11 ≤ x3 then (some (.inr (x2, x3))) else (if x2 = (0 : Int32) then (ff_X7_meets_j89 M x0 x1 x3) else (Option.bind (mm_ck 7 M x0) fun u12 => Option.bind (ff_X7_borderWants M x0 x3) fun v13 => Option.bind (mm_ck 7 M x0) fun u14 => Option.bind (ff_X7_around M x0) fun v15 => Option.bind (mm_rm (x3 + (1 : Int32)) v15) fun v16 => Option.bind (mm_ck 7 M x0) fun u17 => Option.bind (ff_X7_borderWants M x0 v16) fun v18 => if v13 = v18 then (ff_X7_meets_j89 M x0 x1 x3) else (ff_X7_meets_j90 M x0 x1 x3 (1 : Int32))))
def ff_X7_meets_j105 (M : mm_M) : Option (Int32) := some (1 : Int32)
def ff_X7_meets (M : mm_M) (x0 : Nat) : Option Int32 := Option.bind (mm_it (mm_u2 (ff_X7_meets_l4 M x0)) mm_fu ((1 : Int32), (1 : Int32))) fun e7 => mm_u2 (fun x1_8 x2_9 => Option.bind (mm_it (mm_u2 (ff_X7_meets_l53 M x0 x1_8)) mm_fu ((1 : Int32), (0 : Int32))) fun e19 => mm_u2 (fun x2_20 x3_21 => if x1_8 = (0 : Int32) then (if x2_20 = (0 : Int32) then (some (0 : Int32)) else (ff_X7_meets_j105 M)) else (ff_X7_meets_j105 M)) e19) e7
def rm_X7_meets : Room := { frames := 2, cells := 0, slots := 0, locals := 46 }
set_option maxHeartbeats 4000000 in
set_option maxRecDepth 100000 in
theorem jj_X7_meets (l : Launch) (g : mm_G) (A : Nat → Prop) (M : mm_M) (x0 : Nat) (r : Int32) (hf : ff_X7_meets M x0 = some r) : Met l yX7_meets (mm_ws yX7_meets cX7_meets 4 (Option.some Jvm.ClassFile.FieldType.boolean)) rm_X7_meets (va_Pc [.ref x0] (mm_B g A M)) (mm_Ti g A r M) 0 0 A := by
  refine mm_met (g := g) (lv := [(0, .ref x0)]) (fun U h => h.2) (by decide +kernel) (Nat.le_of_ble_eq_true rfl) rfl ?_
  intro p e s m args below meth c ls C hr hnm hB hl
  obtain ⟨hR, hK⟩ := hB
  have hx := C.1
  have hb := C.2.1
  suffices hmain : ∀ (H : Heap) (locs : List Loc), mm_R g A M H → va_S A s.heap H locs → W p l e rm_X7_meets s m args below meth c H locs 0 0 (MQ below (mm_Ti g A r M) args s 0 0 A) (F0 m 0 ls []) from hmain _ _ hR va_S.rf
  clear hR
  intro H locs hR hS
  have L4 : ∀ (x0 : Nat) (e1 : Int32 × Int32) (hX : ∀ (x1 : Int32) (x2 : Int32), e1 = (x1, x2) → ∀ (H : Heap) (locs : List Loc) (ls : Array Slot), mm_R g A M H → va_S A s.heap H locs → lv_has ls 4 [(0, .ref x0), (1, .int x1)] → W p l e rm_X7_meets s m args below meth c H locs 0 0 (MQ below (mm_Ti g A r M) args s 0 0 A) (F0 m 49 ls [])) (n : Nat) (x1 : Int32) (x2 : Int32), mm_it (mm_u2 (ff_X7_meets_l4 M x0)) n (x1, x2) = some e1 → ∀ (H : Heap) (locs : List Loc) (ls : Array Slot), mm_R g A M H → va_S A s.heap H locs → lv_has ls 4 [(0, .ref x0), (1, .int x1), (2, .int x2)] → W p l e rm_X7_meets s m args below meth c H locs 0 0 (MQ below (mm_Ti g A r M) args s 0 0 A) (F0 m 4 ls []) := by
    intro x0 e1 hX n x1 x2 hit
    refine mm_itW (Hd := fun st => ∀ (H : Heap) (locs : List Loc) (ls : Array Slot), mm_R g A M H → va_S A s.heap H locs → lv_has ls 4 [(0, .ref x0), (1, .int st.1), (2, .int st.2)] → W p l e rm_X7_meets s m args below meth c H locs 0 0 (MQ below (mm_Ti g A r M) args s 0 0 A) (F0 m 4 ls [])) (fun st y hf hin hout => ?_) n (x1, x2) hit
    obtain ⟨x1, x2⟩ := st
    have hf := mm_u2e hf
    have J42 : ∀ (x2 : Int32) (y0 : Int32) (H : Heap) (locs : List Loc) (ls : Array Slot), mm_R g A M H → va_S A s.heap H locs → lv_has ls 4 [(0, .ref x0), (2, .int x2)] → ff_X7_meets_j42 M x0 x2 y0 = some y → W p l e rm_X7_meets s m args below meth c H locs 0 0 (MQ below (mm_Ti g A r M) args s 0 0 A) (F0 m 42 ls [.int y0]) := by
      intro x2 y0 H locs ls hR hS hl hf
      unfold ff_X7_meets_j42 at hf
      refine lv_istore_n (lv' := [(1, .int y0), (0, .ref x0), (2, .int x2)]) hx hb dX7_meets_42 rfl hl (by decide) rfl (fun ls hl => ?_)
      refine lv_iinc (v := (x2 + (1 : Int32))) (lv' := [(2, .int (x2 + (1 : Int32))), (1, .int y0), (0, .ref x0)]) hx hb dX7_meets_43 hl (k := 2) rfl rfl (by decide) rfl (fun ls hl => ?_)
      refine lv_goto (tgt := 4) hx hb dX7_meets_46 (by decide) ?_
      exact hin _ (Option.some.inj hf).symm H locs ls hR hS (lv_sub hl [2, 1, 0] rfl)
    have J41 : ∀ (x2 : Int32) (H : Heap) (locs : List Loc) (ls : Array Slot), mm_R g A M H → va_S A s.heap H locs → lv_has ls 4 [(0, .ref x0), (2, .int x2)] → ff_X7_meets_j41 M x0 x2 = some y → W p l e rm_X7_meets s m args below meth c H locs 0 0 (MQ below (mm_Ti g A r M) args s 0 0 A) (F0 m 41 ls []) := by
      intro x2 H locs ls hR hS hl hf
      unfold ff_X7_meets_j41 at hf
      refine lv_iconst (v := 0) hx hb dX7_meets_41 (by decide) ?_
      exact J42 x2 (0 : Int32) H locs ls hR hS (lv_sub hl [0, 1] rfl) hf
    intro H locs ls hR hS hl
    unfold ff_X7_meets_l4 at hf
    refine lv_iload_n hx hb dX7_meets_4 rfl (lv_at hl 2 rfl) ?_
    refine lv_aload_n hx hb dX7_meets_5 rfl (lv_at hl 0 rfl) ?_
    obtain ⟨v1, ev1, hf⟩ := mm_bd hf
    refine mm_getR C hR fs_X7_7 ev1 dX7_meets_6 ?_
    refine lv_iconst (v := 4) hx hb dX7_meets_9 (by decide) ?_
    obtain ⟨v2, ev2, hf⟩ := mm_bd hf
    refine mm_iald C hR ev2 dX7_meets_10 ?_
    refine lv_icmp_ge (tgt := 49) hx hb dX7_meets_11 (by decide) (fun hc => ?_) (fun hc => ?_)
    · have hf := mm_if1 hc hf
      exact hX _ _ (hout _ (Option.some.inj hf).symm).symm H locs ls hR hS (lv_sub hl [0, 1] rfl)
    · have hf := mm_if0 hc hf
      refine lv_iload_n hx hb dX7_meets_14 rfl (lv_at hl 1 rfl) ?_
      refine lv_if_eq (tgt := 41) hx hb dX7_meets_15 (by decide) (fun hc => ?_) (fun hc => ?_)
      · have hf := mm_if1 hc hf
        exact J41 x2 H locs ls hR hS (lv_sub hl [0, 2] rfl) hf
      · have hf := mm_if0 hc hf
        refine lv_aload_n hx hb dX7_meets_18 rfl (lv_at hl 0 rfl) ?_
        obtain ⟨v3, ev3, hf⟩ := mm_bd hf
        refine mm_getR C hR fs_X7_7 ev3 dX7_meets_19 ?_
        refine lv_bipush (v := 12) hx hb dX7_meets_22 (by decide) ?_
        refine lv_iload_n hx hb dX7_meets_24 rfl (lv_at hl 2 rfl) ?_
        refine lv_iadd hx hb dX7_meets_25 ?_
        obtain ⟨v4, ev4, hf⟩ := mm_bd hf
        refine mm_iald C hR ev4 dX7_meets_26 ?_
        refine lv_aload_n hx hb dX7_meets_27 rfl (lv_at hl 0 rfl) ?_
        obtain ⟨v5, ev5, hf⟩ := mm_bd hf
        refine mm_getR C hR fs_X7_7 ev5 dX7_meets_28 ?_
        refine lv_bipush (v := 12) hx hb dX7_meets_31 (by decide) ?_
        obtain ⟨v6, ev6, hf⟩ := mm_bd hf
        refine mm_iald C hR ev6 dX7_meets_33 ?_
        refine lv_icmp_ne (tgt := 41) hx hb dX7_meets_34 (by decide) (fun hc => ?_) (fun hc => ?_)
        · have hf := mm_if0 hc hf
          exact J41 x2 H locs ls hR hS (lv_sub hl [0, 2] rfl) hf
        · have hf := mm_if1 hc hf
          refine lv_iconst (v := 1) hx hb dX7_meets_37 (by decide) ?_
          refine lv_goto (tgt := 42) hx hb dX7_meets_38 (by decide) ?_
          exact J42 x2 (1 : Int32) H locs ls hR hS (lv_sub hl [0, 2] rfl) hf
  have L53 : ∀ (x0 : Nat) (x1 : Int32) (e1 : Int32 × Int32) (hX : ∀ (x2 : Int32) (x3 : Int32), e1 = (x2, x3) → ∀ (H : Heap) (locs : List Loc) (ls : Array Slot), mm_R g A M H → va_S A s.heap H locs → lv_has ls 4 [(1, .int x1), (2, .int x2)] → W p l e rm_X7_meets s m args below meth c H locs 0 0 (MQ below (mm_Ti g A r M) args s 0 0 A) (F0 m 97 ls [])) (n : Nat) (x2 : Int32) (x3 : Int32), mm_it (mm_u2 (ff_X7_meets_l53 M x0 x1)) n (x2, x3) = some e1 → ∀ (H : Heap) (locs : List Loc) (ls : Array Slot), mm_R g A M H → va_S A s.heap H locs → lv_has ls 4 [(0, .ref x0), (1, .int x1), (2, .int x2), (3, .int x3)] → W p l e rm_X7_meets s m args below meth c H locs 0 0 (MQ below (mm_Ti g A r M) args s 0 0 A) (F0 m 53 ls []) := by
    intro x0 x1 e1 hX n x2 x3 hit
    refine mm_itW (Hd := fun st => ∀ (H : Heap) (locs : List Loc) (ls : Array Slot), mm_R g A M H → va_S A s.heap H locs → lv_has ls 4 [(0, .ref x0), (1, .int x1), (2, .int st.1), (3, .int st.2)] → W p l e rm_X7_meets s m args below meth c H locs 0 0 (MQ below (mm_Ti g A r M) args s 0 0 A) (F0 m 53 ls [])) (fun st y hf hin hout => ?_) n (x2, x3) hit
    obtain ⟨x2, x3⟩ := st
    have hf := mm_u2e hf
    have J90 : ∀ (x3 : Int32) (y0 : Int32) (H : Heap) (locs : List Loc) (ls : Array Slot), mm_R g A M H → va_S A s.heap H locs → lv_has ls 4 [(0, .ref x0), (1, .int x1), (3, .int x3)] → ff_X7_meets_j90 M x0 x1 x3 y0 = some y → W p l e rm_X7_meets s m args below meth c H locs 0 0 (MQ below (mm_Ti g A r M) args s 0 0 A) (F0 m 90 ls [.int y0]) := by
      intro x3 y0 H locs ls hR hS hl hf
      unfold ff_X7_meets_j90 at hf
      refine lv_istore_n (lv' := [(2, .int y0), (0, .ref x0), (1, .int x1), (3, .int x3)]) hx hb dX7_meets_90 rfl hl (by decide) rfl (fun ls hl => ?_)
      refine lv_iinc (v := (x3 + (1 : Int32))) (lv' := [(3, .int (x3 + (1 : Int32))), (2, .int y0), (0, .ref x0), (1, .int x1)]) hx hb dX7_meets_91 hl (k := 3) rfl rfl (by decide) rfl (fun ls hl => ?_)
      refine lv_goto (tgt := 53) hx hb dX7_meets_94 (by decide) ?_
      exact hin _ (Option.some.inj hf).symm H locs ls hR hS (lv_sub hl [2, 3, 1, 0] rfl)
    have J89 : ∀ (x3 : Int32) (H : Heap) (locs : List Loc) (ls : Array Slot), mm_R g A M H → va_S A s.heap H locs → lv_has ls 4 [(0, .ref x0), (1, .int x1), (3, .int x3)] → ff_X7_meets_j89 M x0 x1 x3 = some y → W p l e rm_X7_meets s m args below meth c H locs 0 0 (MQ below (mm_Ti g A r M) args s 0 0 A) (F0 m 89 ls []) := by
      intro x3 H locs ls hR hS hl hf
      unfold ff_X7_meets_j89 at hf
      refine lv_iconst (v := 0) hx hb dX7_meets_89 (by decide) ?_
      exact J90 x3 (0 : Int32) H locs ls hR hS (lv_sub hl [0, 1, 2] rfl) hf
    intro H locs ls hR hS hl
    unfold ff_X7_meets_l53 at hf
    refine lv_iload_n hx hb dX7_meets_53 rfl (lv_at hl 3 rfl) ?_
    refine lv_aload_n hx hb dX7_meets_54 rfl (lv_at hl 0 rfl) ?_
    obtain ⟨u10, eu10, hf⟩ := mm_bd hf
    obtain ⟨v11, ev11, hf⟩ := mm_bd hf
    refine mm_callVi (As := []) (rest := [.int x3]) C hR hS hl.1 vs_X7_56 eu10 (jj_X7_around l g A M x0 v11 ev11) ⟨rfl, rfl, (Nat.le_of_ble_eq_true rfl), (Nat.le_of_ble_eq_true rfl)⟩ rfl (Nat.le_of_ble_eq_true rfl) ⟨Nat.zero_le _, Nat.zero_le _⟩ rfl dX7_meets_55 (fun H locs hR hS => ?_)
    refine lv_icmp_ge (tgt := 97) hx hb dX7_meets_58 (by decide) (fun hc => ?_) (fun hc => ?_)
    · have hf := mm_if1 hc hf
      exact hX _ _ (hout _ (Option.some.inj hf).symm).symm H locs ls hR hS (lv_sub hl [1, 2] rfl)
    · have hf := mm_if0 hc hf
      refine lv_iload_n hx hb dX7_meets_61 rfl (lv_at hl 2 rfl) ?_
      refine lv_if_eq (tgt := 89) hx hb dX7_meets_62 (by decide) (fun hc => ?_) (fun hc => ?_)
      · have hf := mm_if1 hc hf
        exact J89 x3 H locs ls hR hS (lv_sub hl [0, 1, 3] rfl) hf
      · have hf := mm_if0 hc hf
        refine lv_aload_n hx hb dX7_meets_65 rfl (lv_at hl 0 rfl) ?_
        refine lv_iload_n hx hb dX7_meets_66 rfl (lv_at hl 3 rfl) ?_
        obtain ⟨u12, eu12, hf⟩ := mm_bd hf
        obtain ⟨v13, ev13, hf⟩ := mm_bd hf
        refine mm_callVi (As := [.int x3]) (rest := []) C hR hS hl.1 vs_X7_52 eu12 (jj_X7_borderWants l g A M x0 x3 v13 ev13) ⟨rfl, rfl, (Nat.le_of_ble_eq_true rfl), (Nat.le_of_ble_eq_true rfl)⟩ rfl (Nat.le_of_ble_eq_true rfl) ⟨Nat.zero_le _, Nat.zero_le _⟩ rfl dX7_meets_67 (fun H locs hR hS => ?_)
        refine lv_aload_n hx hb dX7_meets_70 rfl (lv_at hl 0 rfl) ?_
        refine lv_iload_n hx hb dX7_meets_71 rfl (lv_at hl 3 rfl) ?_
        refine lv_iconst (v := 1) hx hb dX7_meets_72 (by decide) ?_
        refine lv_iadd hx hb dX7_meets_73 ?_
        refine lv_aload_n hx hb dX7_meets_74 rfl (lv_at hl 0 rfl) ?_
        obtain ⟨u14, eu14, hf⟩ := mm_bd hf
        obtain ⟨v15, ev15, hf⟩ := mm_bd hf
        refine mm_callVi (As := []) (rest := [.int (x3 + (1 : Int32)), .ref x0, .int v13]) C hR hS hl.1 vs_X7_56 eu14 (jj_X7_around l g A M x0 v15 ev15) ⟨rfl, rfl, (Nat.le_of_ble_eq_true rfl), (Nat.le_of_ble_eq_true rfl)⟩ rfl (Nat.le_of_ble_eq_true rfl) ⟨Nat.zero_le _, Nat.zero_le _⟩ rfl dX7_meets_75 (fun H locs hR hS => ?_)
        obtain ⟨v16, ev16, hf⟩ := mm_bd hf
        refine mm_irem C ev16 dX7_meets_78 ?_
        obtain ⟨u17, eu17, hf⟩ := mm_bd hf
        obtain ⟨v18, ev18, hf⟩ := mm_bd hf
        refine mm_callVi (As := [.int v16]) (rest := [.int v13]) C hR hS hl.1 vs_X7_52 eu17 (jj_X7_borderWants l g A M x0 v16 v18 ev18) ⟨rfl, rfl, (Nat.le_of_ble_eq_true rfl), (Nat.le_of_ble_eq_true rfl)⟩ rfl (Nat.le_of_ble_eq_true rfl) ⟨Nat.zero_le _, Nat.zero_le _⟩ rfl dX7_meets_79 (fun H locs hR hS => ?_)
        refine lv_icmp_eq (tgt := 89) hx hb dX7_meets_82 (by decide) (fun hc => ?_) (fun hc => ?_)
        · have hf := mm_if1 hc hf
          exact J89 x3 H locs ls hR hS (lv_sub hl [0, 1, 3] rfl) hf
        · have hf := mm_if0 hc hf
          refine lv_iconst (v := 1) hx hb dX7_meets_85 (by decide) ?_
          refine lv_goto (tgt := 90) hx hb dX7_meets_86 (by decide) ?_
          exact J90 x3 (1 : Int32) H locs ls hR hS (lv_sub hl [0, 1, 3] rfl) hf
  have J105 : ∀ (H : Heap) (locs : List Loc) (ls : Array Slot), mm_R g A M H → va_S A s.heap H locs → lv_has ls 4 [] → ff_X7_meets_j105 M = some r → W p l e rm_X7_meets s m args below meth c H locs 0 0 (MQ below (mm_Ti g A r M) args s 0 0 A) (F0 m 105 ls []) := by
    intro  H locs ls hR hS hl hf
    unfold ff_X7_meets_j105 at hf
    refine lv_iconst (v := 1) hx hb dX7_meets_105 (by decide) ?_
    refine lv_goto (tgt := 110) hx hb dX7_meets_106 (by decide) ?_
    exact mm_zre C hR hS hr (Or.inr rfl) ((Option.some.inj hf)) rfl dX7_meets_110
  unfold ff_X7_meets at hf
  refine lv_iconst (v := 1) hx hb dX7_meets_0 (by decide) ?_
  refine lv_istore_n (lv' := [(1, .int (1 : Int32)), (0, .ref x0)]) hx hb dX7_meets_1 rfl hl (by decide) rfl (fun ls hl => ?_)
  refine lv_iconst (v := 1) hx hb dX7_meets_2 (by decide) ?_
  refine lv_istore_n (lv' := [(2, .int (1 : Int32)), (1, .int (1 : Int32)), (0, .ref x0)]) hx hb dX7_meets_3 rfl hl (by decide) rfl (fun ls hl => ?_)
  obtain ⟨e7, he7, hf⟩ := mm_bd hf
  refine L4 x0 e7 (fun x1_8 x2_9 he => ?_) _ (1 : Int32) (1 : Int32) he7 H locs ls hR hS (lv_sub hl [2, 1, 0] rfl)
  subst he
  intro H locs ls hR hS hl
  have hf := mm_u2e hf
  refine lv_iconst (v := 1) hx hb dX7_meets_49 (by decide) ?_
  refine lv_istore_n (lv' := [(2, .int (1 : Int32)), (0, .ref x0), (1, .int x1_8)]) hx hb dX7_meets_50 rfl hl (by decide) rfl (fun ls hl => ?_)
  refine lv_iconst (v := 0) hx hb dX7_meets_51 (by decide) ?_
  refine lv_istore_n (lv' := [(3, .int (0 : Int32)), (2, .int (1 : Int32)), (0, .ref x0), (1, .int x1_8)]) hx hb dX7_meets_52 rfl hl (by decide) rfl (fun ls hl => ?_)
  obtain ⟨e19, he19, hf⟩ := mm_bd hf
  refine L53 x0 x1_8 e19 (fun x2_20 x3_21 he => ?_) _ (1 : Int32) (0 : Int32) he19 H locs ls hR hS (lv_sub hl [2, 3, 1, 0] rfl)
  subst he
  intro H locs ls hR hS hl
  have hf := mm_u2e hf
  refine lv_iload_n hx hb dX7_meets_97 rfl (lv_at hl 0 rfl) ?_
  refine lv_if_ne (tgt := 105) hx hb dX7_meets_98 (by decide) (fun hc => ?_) (fun hc => ?_)
  · have hf := mm_if0 hc hf
    exact J105  H locs ls hR hS (lv_sub hl [] rfl) hf
  · have hf := mm_if1 hc hf
    refine lv_iload_n hx hb dX7_meets_101 rfl (lv_at hl 1 rfl) ?_
    refine lv_if_eq (tgt := 109) hx hb dX7_meets_102 (by decide) (fun hc => ?_) (fun hc => ?_)
    · have hf := mm_if1 hc hf
      refine lv_iconst (v := 0) hx hb dX7_meets_109 (by decide) ?_
      exact mm_zre C hR hS hr (Or.inl rfl) ((Option.some.inj hf)) rfl dX7_meets_110
    · have hf := mm_if0 hc hf
      exact J105  H locs ls hR hS (lv_sub hl [] rfl) hf
def ff_X7_floor (M : mm_M) (x0 : Nat) (x1 : Int32) (x2 : Int32) : Option ((Int32 × mm_M)) := Option.bind (ff_X7_in M x1 (3 : Int32) (12 : Int32)) fun v1 => if v1 = (0 : Int32) then (some ((-1 : Int32), M)) else (Option.bind (ff_X7_in M x2 (3 : Int32) (12 : Int32)) fun v2 => if v2 = (0 : Int32) then (some ((-1 : Int32), M)) else (Option.bind (mm_ck 7 M x0) fun u3 => Option.bind (ff_X7_laidCells M x0) fun v4 => if v4 ≤ (0 : Int32) then (Option.bind (mm_ck 7 M x0) fun u5 => Option.bind (ff_X7_keep M x0) fun M6 => Option.bind (mm_ck 7 M6 x0) fun u7 => Option.bind (ff_X7_beginWith M6 x0 x1 x2) fun M8 => Option.bind (mm_ck 7 M8 x0) fun u9 => Option.bind (ff_X7_cells M8 x0) fun v10 => some (v10, M8)) else (some ((-2 : Int32), M))))
def rm_X7_floor : Room := { frames := 2, cells := 0, slots := 0, locals := 45 }
set_option maxHeartbeats 4000000 in
set_option maxRecDepth 100000 in
theorem jj_X7_floor (l : Launch) (g : mm_G) (A : Nat → Prop) (M : mm_M) (x0 : Nat) (x1 : Int32) (x2 : Int32) (r : Int32) (M2 : mm_M) (hf : ff_X7_floor M x0 x1 x2 = some (r, M2)) : Met l yX7_floor (mm_ws yX7_floor cX7_floor 3 (Option.some Jvm.ClassFile.FieldType.int)) rm_X7_floor (va_Pc [.ref x0, .int x1, .int x2] (mm_B g A M)) (mm_Ti g A r M2) 0 0 A := by
  refine mm_met (g := g) (lv := [(0, .ref x0), (1, .int x1), (2, .int x2)]) (fun U h => h.2) (by decide +kernel) (Nat.le_of_ble_eq_true rfl) rfl ?_
  intro p e s m args below meth c ls C hr hnm hB hl
  obtain ⟨hR, hK⟩ := hB
  have hx := C.1
  have hb := C.2.1
  suffices hmain : ∀ (H : Heap) (locs : List Loc), mm_R g A M H → va_S A s.heap H locs → W p l e rm_X7_floor s m args below meth c H locs 0 0 (MQ below (mm_Ti g A r M2) args s 0 0 A) (F0 m 0 ls []) from hmain _ _ hR va_S.rf
  clear hR
  intro H locs hR hS
  unfold ff_X7_floor at hf
  refine lv_iload_n hx hb dX7_floor_0 rfl (lv_at hl 1 rfl) ?_
  refine lv_iconst (v := 3) hx hb dX7_floor_1 (by decide) ?_
  refine lv_bipush (v := 12) hx hb dX7_floor_2 (by decide) ?_
  obtain ⟨v1, ev1, hf⟩ := mm_bd hf
  refine mm_callSi (As := [.int x1, .int (3 : Int32), .int (12 : Int32)]) (rest := []) C hR hS hl.1 ss_X7_37 (jj_X7_in l g A M x1 (3 : Int32) (12 : Int32) v1 ev1) ⟨rfl, rfl, (Nat.le_of_ble_eq_true rfl), (Nat.le_of_ble_eq_true rfl)⟩ rfl (Nat.le_of_ble_eq_true rfl) ⟨Nat.zero_le _, Nat.zero_le _⟩ rfl dX7_floor_4 (fun H locs hR hS => ?_)
  refine lv_if_eq (tgt := 20) hx hb dX7_floor_7 (by decide) (fun hc => ?_) (fun hc => ?_)
  · have hf := mm_if1 hc hf
    refine lv_iconst (v := -1) hx hb dX7_floor_20 (by decide) ?_
    exact mm_ire C hR hS hr ((mm_pe hf).1) (mm_pe hf).2 dX7_floor_21
  · have hf := mm_if0 hc hf
    refine lv_iload_n hx hb dX7_floor_10 rfl (lv_at hl 2 rfl) ?_
    refine lv_iconst (v := 3) hx hb dX7_floor_11 (by decide) ?_
    refine lv_bipush (v := 12) hx hb dX7_floor_12 (by decide) ?_
    obtain ⟨v2, ev2, hf⟩ := mm_bd hf
    refine mm_callSi (As := [.int x2, .int (3 : Int32), .int (12 : Int32)]) (rest := []) C hR hS hl.1 ss_X7_37 (jj_X7_in l g A M x2 (3 : Int32) (12 : Int32) v2 ev2) ⟨rfl, rfl, (Nat.le_of_ble_eq_true rfl), (Nat.le_of_ble_eq_true rfl)⟩ rfl (Nat.le_of_ble_eq_true rfl) ⟨Nat.zero_le _, Nat.zero_le _⟩ rfl dX7_floor_14 (fun H locs hR hS => ?_)
    refine lv_if_ne (tgt := 22) hx hb dX7_floor_17 (by decide) (fun hc => ?_) (fun hc => ?_)
    · have hf := mm_if0 hc hf
      refine lv_aload_n hx hb dX7_floor_22 rfl (lv_at hl 0 rfl) ?_
      obtain ⟨u3, eu3, hf⟩ := mm_bd hf
      obtain ⟨v4, ev4, hf⟩ := mm_bd hf
      refine mm_callVi (As := []) (rest := []) C hR hS hl.1 vs_X7_59 eu3 (jj_X7_laidCells l g A M x0 v4 ev4) ⟨rfl, rfl, (Nat.le_of_ble_eq_true rfl), (Nat.le_of_ble_eq_true rfl)⟩ rfl (Nat.le_of_ble_eq_true rfl) ⟨Nat.zero_le _, Nat.zero_le _⟩ rfl dX7_floor_23 (fun H locs hR hS => ?_)
      refine lv_if_le (tgt := 32) hx hb dX7_floor_26 (by decide) (fun hc => ?_) (fun hc => ?_)
      · have hf := mm_if1 hc hf
        refine lv_aload_n hx hb dX7_floor_32 rfl (lv_at hl 0 rfl) ?_
        obtain ⟨u5, eu5, hf⟩ := mm_bd hf
        obtain ⟨M6, eM6, hf⟩ := mm_bd hf
        refine mm_callVv (As := []) (rest := []) C hR hS hl.1 vs_X7_62 eu5 (jj_X7_keep l g A M x0 M6 eM6) ⟨rfl, rfl, (Nat.le_of_ble_eq_true rfl), (Nat.le_of_ble_eq_true rfl)⟩ rfl (Nat.le_of_ble_eq_true rfl) ⟨Nat.zero_le _, Nat.zero_le _⟩ rfl dX7_floor_33 (fun H locs hR hS => ?_)
        refine lv_aload_n hx hb dX7_floor_36 rfl (lv_at hl 0 rfl) ?_
        refine lv_iload_n hx hb dX7_floor_37 rfl (lv_at hl 1 rfl) ?_
        refine lv_iload_n hx hb dX7_floor_38 rfl (lv_at hl 2 rfl) ?_
        obtain ⟨u7, eu7, hf⟩ := mm_bd hf
        obtain ⟨M8, eM8, hf⟩ := mm_bd hf
        refine mm_callVv (As := [.int x1, .int x2]) (rest := []) C hR hS hl.1 vs_X7_25 eu7 (jj_X7_beginWith l g A M6 x0 x1 x2 M8 eM8) ⟨rfl, rfl, (Nat.le_of_ble_eq_true rfl), (Nat.le_of_ble_eq_true rfl)⟩ rfl (Nat.le_of_ble_eq_true rfl) ⟨Nat.zero_le _, Nat.zero_le _⟩ rfl dX7_floor_39 (fun H locs hR hS => ?_)
        refine lv_aload_n hx hb dX7_floor_42 rfl (lv_at hl 0 rfl) ?_
        obtain ⟨u9, eu9, hf⟩ := mm_bd hf
        obtain ⟨v10, ev10, hf⟩ := mm_bd hf
        refine mm_callVi (As := []) (rest := []) C hR hS hl.1 vs_X7_41 eu9 (jj_X7_cells l g A M8 x0 v10 ev10) ⟨rfl, rfl, (Nat.le_of_ble_eq_true rfl), (Nat.le_of_ble_eq_true rfl)⟩ rfl (Nat.le_of_ble_eq_true rfl) ⟨Nat.zero_le _, Nat.zero_le _⟩ rfl dX7_floor_43 (fun H locs hR hS => ?_)
        exact mm_ire C hR hS hr ((mm_pe hf).1) (mm_pe hf).2 dX7_floor_46
      · have hf := mm_if0 hc hf
        refine lv_bipush (v := -2) hx hb dX7_floor_29 (by decide) ?_
        exact mm_ire C hR hS hr ((mm_pe hf).1) (mm_pe hf).2 dX7_floor_31
    · have hf := mm_if1 hc hf
      refine lv_iconst (v := -1) hx hb dX7_floor_20 (by decide) ?_
      exact mm_ire C hR hS hr ((mm_pe hf).1) (mm_pe hf).2 dX7_floor_21
def ff_X7_atHand_l4 (M : mm_M) (x0 : Nat) (x1 : Int32) (x2 : Int32) : Option ((Int32 × Int32) ⊕ (Int32 × Int32)) := if (100 : Int32) ≤ x2 then (some (.inr (x1, x2))) else (Option.bind (mm_gR 7 M x0 0) fun v1 => Option.bind (mm_aI 0 M v1 ((308 : Int32) + x2)) fun v2 => some (.inl ((x1 + v2), (x2 + (1 : Int32)))))
def ff_X7_atHand (M : mm_M) (x0 : Nat) : Option Int32 := Option.bind (mm_it (mm_u2 (ff_X7_atHand_l4 M x0)) mm_fu ((0 : Int32), (0 : Int32))) fun e3 => mm_u2 (fun x1_4 x2_5 => some x1_4) e3
def rm_X7_atHand : Room := { frames := 0, cells := 0, slots := 0, locals := 0 }
set_option maxHeartbeats 4000000 in
set_option maxRecDepth 100000 in
theorem jj_X7_atHand (l : Launch) (g : mm_G) (A : Nat → Prop) (M : mm_M) (x0 : Nat) (r : Int32) (hf : ff_X7_atHand M x0 = some r) : Met l yX7_atHand (mm_ws yX7_atHand cX7_atHand 3 (Option.some Jvm.ClassFile.FieldType.int)) rm_X7_atHand (va_Pc [.ref x0] (mm_B g A M)) (mm_Ti g A r M) 0 0 A := by
  refine mm_met (g := g) (lv := [(0, .ref x0)]) (fun U h => h.2) (by decide +kernel) (Nat.le_of_ble_eq_true rfl) rfl ?_
  intro p e s m args below meth c ls C hr hnm hB hl
  obtain ⟨hR, hK⟩ := hB
  have hx := C.1
  have hb := C.2.1
  suffices hmain : ∀ (H : Heap) (locs : List Loc), mm_R g A M H → va_S A s.heap H locs → W p l e rm_X7_atHand s m args below meth c H locs 0 0 (MQ below (mm_Ti g A r M) args s 0 0 A) (F0 m 0 ls []) from hmain _ _ hR va_S.rf
  clear hR
  intro H locs hR hS
  have L4 : ∀ (x0 : Nat) (e1 : Int32 × Int32) (hX : ∀ (x1 : Int32) (x2 : Int32), e1 = (x1, x2) → ∀ (H : Heap) (locs : List Loc) (ls : Array Slot), mm_R g A M H → va_S A s.heap H locs → lv_has ls 3 [(1, .int x1)] → W p l e rm_X7_atHand s m args below meth c H locs 0 0 (MQ below (mm_Ti g A r M) args s 0 0 A) (F0 m 29 ls [])) (n : Nat) (x1 : Int32) (x2 : Int32), mm_it (mm_u2 (ff_X7_atHand_l4 M x0)) n (x1, x2) = some e1 → ∀ (H : Heap) (locs : List Loc) (ls : Array Slot), mm_R g A M H → va_S A s.heap H locs → lv_has ls 3 [(0, .ref x0), (1, .int x1), (2, .int x2)] → W p l e rm_X7_atHand s m args below meth c H locs 0 0 (MQ below (mm_Ti g A r M) args s 0 0 A) (F0 m 4 ls []) := by
    intro x0 e1 hX n x1 x2 hit
    refine mm_itW (Hd := fun st => ∀ (H : Heap) (locs : List Loc) (ls : Array Slot), mm_R g A M H → va_S A s.heap H locs → lv_has ls 3 [(0, .ref x0), (1, .int st.1), (2, .int st.2)] → W p l e rm_X7_atHand s m args below meth c H locs 0 0 (MQ below (mm_Ti g A r M) args s 0 0 A) (F0 m 4 ls [])) (fun st y hf hin hout => ?_) n (x1, x2) hit
    obtain ⟨x1, x2⟩ := st
    have hf := mm_u2e hf
    intro H locs ls hR hS hl
    unfold ff_X7_atHand_l4 at hf
    refine lv_iload_n hx hb dX7_atHand_4 rfl (lv_at hl 2 rfl) ?_
    refine lv_bipush (v := 100) hx hb dX7_atHand_5 (by decide) ?_
    refine lv_icmp_ge (tgt := 29) hx hb dX7_atHand_7 (by decide) (fun hc => ?_) (fun hc => ?_)
    · have hf := mm_if1 hc hf
      exact hX _ _ (hout _ (Option.some.inj hf).symm).symm H locs ls hR hS (lv_sub hl [1] rfl)
    · have hf := mm_if0 hc hf
      refine lv_iload_n hx hb dX7_atHand_10 rfl (lv_at hl 1 rfl) ?_
      refine lv_aload_n hx hb dX7_atHand_11 rfl (lv_at hl 0 rfl) ?_
      obtain ⟨v1, ev1, hf⟩ := mm_bd hf
      refine mm_getR C hR fs_X7_7 ev1 dX7_atHand_12 ?_
      refine lv_sipush (v := 308) hx hb dX7_atHand_15 (by decide) ?_
      refine lv_iload_n hx hb dX7_atHand_18 rfl (lv_at hl 2 rfl) ?_
      refine lv_iadd hx hb dX7_atHand_19 ?_
      obtain ⟨v2, ev2, hf⟩ := mm_bd hf
      refine mm_iald C hR ev2 dX7_atHand_20 ?_
      refine lv_iadd hx hb dX7_atHand_21 ?_
      refine lv_istore_n (lv' := [(1, .int (x1 + v2)), (0, .ref x0), (2, .int x2)]) hx hb dX7_atHand_22 rfl hl (by decide) rfl (fun ls hl => ?_)
      refine lv_iinc (v := (x2 + (1 : Int32))) (lv' := [(2, .int (x2 + (1 : Int32))), (1, .int (x1 + v2)), (0, .ref x0)]) hx hb dX7_atHand_23 hl (k := 2) rfl rfl (by decide) rfl (fun ls hl => ?_)
      refine lv_goto (tgt := 4) hx hb dX7_atHand_26 (by decide) ?_
      exact hin _ (Option.some.inj hf).symm H locs ls hR hS (lv_sub hl [2, 1, 0] rfl)
  unfold ff_X7_atHand at hf
  refine lv_iconst (v := 0) hx hb dX7_atHand_0 (by decide) ?_
  refine lv_istore_n (lv' := [(1, .int (0 : Int32)), (0, .ref x0)]) hx hb dX7_atHand_1 rfl hl (by decide) rfl (fun ls hl => ?_)
  refine lv_iconst (v := 0) hx hb dX7_atHand_2 (by decide) ?_
  refine lv_istore_n (lv' := [(2, .int (0 : Int32)), (1, .int (0 : Int32)), (0, .ref x0)]) hx hb dX7_atHand_3 rfl hl (by decide) rfl (fun ls hl => ?_)
  obtain ⟨e3, he3, hf⟩ := mm_bd hf
  refine L4 x0 e3 (fun x1_4 x2_5 he => ?_) _ (0 : Int32) (0 : Int32) he3 H locs ls hR hS (lv_sub hl [2, 1, 0] rfl)
  subst he
  intro H locs ls hR hS hl
  have hf := mm_u2e hf
  refine lv_iload_n hx hb dX7_atHand_29 rfl (lv_at hl 0 rfl) ?_
  exact mm_ire C hR hS hr ((Option.some.inj hf)) rfl dX7_atHand_30
def ff_X7_set_j117 (M : mm_M) (x0 : Nat) (x1 : Int32) (x2 : Int32) (x3 : Int32) : Option ((Int32 × mm_M)) := Option.bind (mm_gR 7 M x0 0) fun v7 => Option.bind (mm_sI 0 M v7 ((2 : Int32) + x1) x2) fun M8 => some (x3, M8)
def ff_X7_set_l92 (x0 : Nat) (x1 : Int32) (x2 : Int32) (x3 : Int32) (x4 : Int32) (M : mm_M) : Option ((Int32 × mm_M) ⊕ (Int32 × mm_M)) := if (100 : Int32) ≤ x4 then (some (.inr (x4, M))) else (Option.bind (mm_gR 7 M x0 0) fun v16 => Option.bind (mm_sI 0 M v16 ((308 : Int32) + x4) (0 : Int32)) fun M17 => some (.inl ((x4 + (1 : Int32)), M17)))
def ff_X7_set_j51 (M : mm_M) (x0 : Nat) (x1 : Int32) (x2 : Int32) : Option ((Int32 × mm_M)) := Option.bind (mm_ck 7 M x0) fun u3 => Option.bind (ff_X7_keep M x0) fun M4 => Option.bind (mm_gR 7 M4 x0 0) fun v5 => Option.bind (mm_aI 0 M4 v5 ((2 : Int32) + x1)) fun v6 => if x1 = (0 : Int32) then (Option.bind (mm_gR 7 M4 x0 0) fun v9 => Option.bind (mm_aI 0 M4 v9 (11 : Int32)) fun v10 => Option.bind (mm_gR 7 M4 x0 0) fun v11 => Option.bind (mm_aI 0 M4 v11 (2 : Int32)) fun v12 => Option.bind (mm_ck 7 M4 x0) fun u13 => Option.bind (ff_X7_atHand M4 x0) fun v14 => Option.bind (mm_sI 0 M4 v9 (11 : Int32) (v10 + (v12 * v14))) fun M15 => Option.bind (mm_it (mm_u2 (ff_X7_set_l92 x0 x1 x2 v6)) mm_fu ((0 : Int32), M15)) fun e18 => mm_u2 (fun x4_19 M20 => ff_X7_set_j117 M20 x0 x1 x2 v6) e18) else (ff_X7_set_j117 M4 x0 x1 x2 v6)
def ff_X7_set_j29 (M : mm_M) (x0 : Nat) (x1 : Int32) (x2 : Int32) (y0 : Int32) (y1 : Int32) (y2 : Int32) : Option ((Int32 × mm_M)) := Option.bind (ff_X7_in M y2 y1 y0) fun v2 => if v2 = (0 : Int32) then (some ((-1 : Int32), M)) else (if x1 = (0 : Int32) then (Option.bind (mm_ck 7 M x0) fun u21 => Option.bind (ff_X7_laidCells M x0) fun v22 => if v22 ≤ (0 : Int32) then (ff_X7_set_j51 M x0 x1 x2) else (some ((-2 : Int32), M))) else (ff_X7_set_j51 M x0 x1 x2))
def ff_X7_set_j19 (M : mm_M) (x0 : Nat) (x1 : Int32) (x2 : Int32) (y0 : Int32) (y1 : Int32) : Option ((Int32 × mm_M)) := if x1 = (0 : Int32) then (ff_X7_set_j29 M x0 x1 x2 (60 : Int32) y0 y1) else (ff_X7_set_j29 M x0 x1 x2 (5 : Int32) y0 y1)
def ff_X7_set (M : mm_M) (x0 : Nat) (x1 : Int32) (x2 : Int32) : Option ((Int32 × mm_M)) := Option.bind (ff_X7_in M x1 (0 : Int32) (1 : Int32)) fun v1 => if v1 = (0 : Int32) then (some ((-1 : Int32), M)) else (if x1 = (0 : Int32) then (ff_X7_set_j19 M x0 x1 x2 (5 : Int32) x2) else (ff_X7_set_j19 M x0 x1 x2 (0 : Int32) x2))
def rm_X7_set : Room := { frames := 2, cells := 0, slots := 0, locals := 45 }
set_option maxHeartbeats 4000000 in
set_option maxRecDepth 100000 in
theorem jj_X7_set (l : Launch) (g : mm_G) (A : Nat → Prop) (M : mm_M) (x0 : Nat) (x1 : Int32) (x2 : Int32) (r : Int32) (M2 : mm_M) (hf : ff_X7_set M x0 x1 x2 = some (r, M2)) : Met l yX7_set (mm_ws yX7_set cX7_set 5 (Option.some Jvm.ClassFile.FieldType.int)) rm_X7_set (va_Pc [.ref x0, .int x1, .int x2] (mm_B g A M)) (mm_Ti g A r M2) 0 0 A := by
  refine mm_met (g := g) (lv := [(0, .ref x0), (1, .int x1), (2, .int x2)]) (fun U h => h.2) (by decide +kernel) (Nat.le_of_ble_eq_true rfl) rfl ?_
  intro p e s m args below meth c ls C hr hnm hB hl
  obtain ⟨hR, hK⟩ := hB
  have hx := C.1
  have hb := C.2.1
  suffices hmain : ∀ (H : Heap) (locs : List Loc), mm_R g A M H → va_S A s.heap H locs → W p l e rm_X7_set s m args below meth c H locs 0 0 (MQ below (mm_Ti g A r M2) args s 0 0 A) (F0 m 0 ls []) from hmain _ _ hR va_S.rf
  clear hR
  intro H locs hR hS
  have L92 : ∀ (x0 : Nat) (x1 : Int32) (x2 : Int32) (x3 : Int32) (e1 : Int32 × mm_M) (hX : ∀ (x4 : Int32) (M : mm_M), e1 = (x4, M) → ∀ (H : Heap) (locs : List Loc) (ls : Array Slot), mm_R g A M H → va_S A s.heap H locs → lv_has ls 5 [(0, .ref x0), (1, .int x1), (2, .int x2), (3, .int x3)] → W p l e rm_X7_set s m args below meth c H locs 0 0 (MQ below (mm_Ti g A r M2) args s 0 0 A) (F0 m 117 ls [])) (n : Nat) (x4 : Int32) (M : mm_M), mm_it (mm_u2 (ff_X7_set_l92 x0 x1 x2 x3)) n (x4, M) = some e1 → ∀ (H : Heap) (locs : List Loc) (ls : Array Slot), mm_R g A M H → va_S A s.heap H locs → lv_has ls 5 [(0, .ref x0), (1, .int x1), (2, .int x2), (3, .int x3), (4, .int x4)] → W p l e rm_X7_set s m args below meth c H locs 0 0 (MQ below (mm_Ti g A r M2) args s 0 0 A) (F0 m 92 ls []) := by
    intro x0 x1 x2 x3 e1 hX n x4 M hit
    refine mm_itW (Hd := fun st => ∀ (H : Heap) (locs : List Loc) (ls : Array Slot), mm_R g A st.2 H → va_S A s.heap H locs → lv_has ls 5 [(0, .ref x0), (1, .int x1), (2, .int x2), (3, .int x3), (4, .int st.1)] → W p l e rm_X7_set s m args below meth c H locs 0 0 (MQ below (mm_Ti g A r M2) args s 0 0 A) (F0 m 92 ls [])) (fun st y hf hin hout => ?_) n (x4, M) hit
    obtain ⟨x4, M⟩ := st
    have hf := mm_u2e hf
    intro H locs ls hR hS hl
    unfold ff_X7_set_l92 at hf
    refine lv_iload hx hb dX7_set_92 (lv_at hl 4 rfl) ?_
    refine lv_bipush (v := 100) hx hb dX7_set_94 (by decide) ?_
    refine lv_icmp_ge (tgt := 117) hx hb dX7_set_96 (by decide) (fun hc => ?_) (fun hc => ?_)
    · have hf := mm_if1 hc hf
      exact hX _ _ (hout _ (Option.some.inj hf).symm).symm H locs ls hR hS (lv_sub hl [0, 1, 2, 3] rfl)
    · have hf := mm_if0 hc hf
      refine lv_aload_n hx hb dX7_set_99 rfl (lv_at hl 0 rfl) ?_
      obtain ⟨v16, ev16, hf⟩ := mm_bd hf
      refine mm_getR C hR fs_X7_7 ev16 dX7_set_100 ?_
      refine lv_sipush (v := 308) hx hb dX7_set_103 (by decide) ?_
      refine lv_iload hx hb dX7_set_106 (lv_at hl 4 rfl) ?_
      refine lv_iadd hx hb dX7_set_108 ?_
      refine lv_iconst (v := 0) hx hb dX7_set_109 (by decide) ?_
      obtain ⟨M17, eM17, hf⟩ := mm_bd hf
      refine mm_iast C hR hS eM17 dX7_set_110 (fun H locs hR hS => ?_)
      refine lv_iinc (v := (x4 + (1 : Int32))) (lv' := [(4, .int (x4 + (1 : Int32))), (0, .ref x0), (1, .int x1), (2, .int x2), (3, .int x3)]) hx hb dX7_set_111 hl (k := 4) rfl rfl (by decide) rfl (fun ls hl => ?_)
      refine lv_goto (tgt := 92) hx hb dX7_set_114 (by decide) ?_
      exact hin _ (Option.some.inj hf).symm H locs ls hR hS (lv_sub hl [1, 2, 3, 4, 0] rfl)
  have J117 : ∀ (M : mm_M) (x0 : Nat) (x1 : Int32) (x2 : Int32) (x3 : Int32) (H : Heap) (locs : List Loc) (ls : Array Slot), mm_R g A M H → va_S A s.heap H locs → lv_has ls 5 [(0, .ref x0), (1, .int x1), (2, .int x2), (3, .int x3)] → ff_X7_set_j117 M x0 x1 x2 x3 = some (r, M2) → W p l e rm_X7_set s m args below meth c H locs 0 0 (MQ below (mm_Ti g A r M2) args s 0 0 A) (F0 m 117 ls []) := by
    intro M x0 x1 x2 x3 H locs ls hR hS hl hf
    unfold ff_X7_set_j117 at hf
    refine lv_aload_n hx hb dX7_set_117 rfl (lv_at hl 0 rfl) ?_
    obtain ⟨v7, ev7, hf⟩ := mm_bd hf
    refine mm_getR C hR fs_X7_7 ev7 dX7_set_118 ?_
    refine lv_iconst (v := 2) hx hb dX7_set_121 (by decide) ?_
    refine lv_iload_n hx hb dX7_set_122 rfl (lv_at hl 1 rfl) ?_
    refine lv_iadd hx hb dX7_set_123 ?_
    refine lv_iload_n hx hb dX7_set_124 rfl (lv_at hl 2 rfl) ?_
    obtain ⟨M8, eM8, hf⟩ := mm_bd hf
    refine mm_iast C hR hS eM8 dX7_set_125 (fun H locs hR hS => ?_)
    refine lv_iload_n hx hb dX7_set_126 rfl (lv_at hl 3 rfl) ?_
    exact mm_ire C hR hS hr ((mm_pe hf).1) (mm_pe hf).2 dX7_set_127
  have J51 : ∀ (M : mm_M) (x0 : Nat) (x1 : Int32) (x2 : Int32) (H : Heap) (locs : List Loc) (ls : Array Slot), mm_R g A M H → va_S A s.heap H locs → lv_has ls 5 [(0, .ref x0), (1, .int x1), (2, .int x2)] → ff_X7_set_j51 M x0 x1 x2 = some (r, M2) → W p l e rm_X7_set s m args below meth c H locs 0 0 (MQ below (mm_Ti g A r M2) args s 0 0 A) (F0 m 51 ls []) := by
    intro M x0 x1 x2 H locs ls hR hS hl hf
    unfold ff_X7_set_j51 at hf
    refine lv_aload_n hx hb dX7_set_51 rfl (lv_at hl 0 rfl) ?_
    obtain ⟨u3, eu3, hf⟩ := mm_bd hf
    obtain ⟨M4, eM4, hf⟩ := mm_bd hf
    refine mm_callVv (As := []) (rest := []) C hR hS hl.1 vs_X7_62 eu3 (jj_X7_keep l g A M x0 M4 eM4) ⟨rfl, rfl, (Nat.le_of_ble_eq_true rfl), (Nat.le_of_ble_eq_true rfl)⟩ rfl (Nat.le_of_ble_eq_true rfl) ⟨Nat.zero_le _, Nat.zero_le _⟩ rfl dX7_set_52 (fun H locs hR hS => ?_)
    refine lv_aload_n hx hb dX7_set_55 rfl (lv_at hl 0 rfl) ?_
    obtain ⟨v5, ev5, hf⟩ := mm_bd hf
    refine mm_getR C hR fs_X7_7 ev5 dX7_set_56 ?_
    refine lv_iconst (v := 2) hx hb dX7_set_59 (by decide) ?_
    refine lv_iload_n hx hb dX7_set_60 rfl (lv_at hl 1 rfl) ?_
    refine lv_iadd hx hb dX7_set_61 ?_
    obtain ⟨v6, ev6, hf⟩ := mm_bd hf
    refine mm_iald C hR ev6 dX7_set_62 ?_
    refine lv_istore_n (lv' := [(3, .int v6), (0, .ref x0), (1, .int x1), (2, .int x2)]) hx hb dX7_set_63 rfl hl (by decide) rfl (fun ls hl => ?_)
    refine lv_iload_n hx hb dX7_set_64 rfl (lv_at hl 2 rfl) ?_
    refine lv_if_ne (tgt := 117) hx hb dX7_set_65 (by decide) (fun hc => ?_) (fun hc => ?_)
    · have hf := mm_if0 hc hf
      exact J117 M4 x0 x1 x2 v6 H locs ls hR hS (lv_sub hl [1, 2, 3, 0] rfl) hf
    · have hf := mm_if1 hc hf
      refine lv_aload_n hx hb dX7_set_68 rfl (lv_at hl 1 rfl) ?_
      obtain ⟨v9, ev9, hf⟩ := mm_bd hf
      refine mm_getR C hR fs_X7_7 ev9 dX7_set_69 ?_
      refine lv_bipush (v := 11) hx hb dX7_set_72 (by decide) ?_
      refine lv_dup2_11 hx hb dX7_set_74 rfl rfl ?_
      obtain ⟨v10, ev10, hf⟩ := mm_bd hf
      refine mm_iald C hR ev10 dX7_set_75 ?_
      refine lv_aload_n hx hb dX7_set_76 rfl (lv_at hl 1 rfl) ?_
      obtain ⟨v11, ev11, hf⟩ := mm_bd hf
      refine mm_getR C hR fs_X7_7 ev11 dX7_set_77 ?_
      refine lv_iconst (v := 2) hx hb dX7_set_80 (by decide) ?_
      obtain ⟨v12, ev12, hf⟩ := mm_bd hf
      refine mm_iald C hR ev12 dX7_set_81 ?_
      refine lv_aload_n hx hb dX7_set_82 rfl (lv_at hl 1 rfl) ?_
      obtain ⟨u13, eu13, hf⟩ := mm_bd hf
      obtain ⟨v14, ev14, hf⟩ := mm_bd hf
      refine mm_callVi (As := []) (rest := [.int v12, .int v10, .int (11 : Int32), .ref v9]) C hR hS hl.1 vs_X7_65 eu13 (jj_X7_atHand l g A M4 x0 v14 ev14) ⟨rfl, rfl, (Nat.le_of_ble_eq_true rfl), (Nat.le_of_ble_eq_true rfl)⟩ rfl (Nat.le_of_ble_eq_true rfl) ⟨Nat.zero_le _, Nat.zero_le _⟩ rfl dX7_set_83 (fun H locs hR hS => ?_)
      refine lv_imul hx hb dX7_set_86 ?_
      refine lv_iadd hx hb dX7_set_87 ?_
      obtain ⟨M15, eM15, hf⟩ := mm_bd hf
      refine mm_iast C hR hS eM15 dX7_set_88 (fun H locs hR hS => ?_)
      refine lv_iconst (v := 0) hx hb dX7_set_89 (by decide) ?_
      refine lv_istore (lv' := [(4, .int (0 : Int32)), (3, .int v6), (0, .ref x0), (1, .int x1), (2, .int x2)]) hx hb dX7_set_90 hl (by decide) rfl (fun ls hl => ?_)
      obtain ⟨e18, he18, hf⟩ := mm_bd hf
      refine L92 x0 x1 x2 v6 e18 (fun x4_19 M20 he => ?_) _ (0 : Int32) M15 he18 H locs ls hR hS (lv_sub hl [2, 3, 4, 1, 0] rfl)
      subst he
      intro H locs ls hR hS hl
      have hf := mm_u2e hf
      exact J117 M20 x0 x1 x2 v6 H locs ls hR hS (lv_sub hl [0, 1, 2, 3] rfl) hf
  have J29 : ∀ (M : mm_M) (x0 : Nat) (x1 : Int32) (x2 : Int32) (y0 : Int32) (y1 : Int32) (y2 : Int32) (H : Heap) (locs : List Loc) (ls : Array Slot), mm_R g A M H → va_S A s.heap H locs → lv_has ls 5 [(0, .ref x0), (1, .int x1), (2, .int x2)] → ff_X7_set_j29 M x0 x1 x2 y0 y1 y2 = some (r, M2) → W p l e rm_X7_set s m args below meth c H locs 0 0 (MQ below (mm_Ti g A r M2) args s 0 0 A) (F0 m 29 ls [.int y0, .int y1, .int y2]) := by
    intro M x0 x1 x2 y0 y1 y2 H locs ls hR hS hl hf
    unfold ff_X7_set_j29 at hf
    obtain ⟨v2, ev2, hf⟩ := mm_bd hf
    refine mm_callSi (As := [.int y2, .int y1, .int y0]) (rest := []) C hR hS hl.1 ss_X7_37 (jj_X7_in l g A M y2 y1 y0 v2 ev2) ⟨rfl, rfl, (Nat.le_of_ble_eq_true rfl), (Nat.le_of_ble_eq_true rfl)⟩ rfl (Nat.le_of_ble_eq_true rfl) ⟨Nat.zero_le _, Nat.zero_le _⟩ rfl dX7_set_29 (fun H locs hR hS => ?_)
    refine lv_if_ne (tgt := 37) hx hb dX7_set_32 (by decide) (fun hc => ?_) (fun hc => ?_)
    · have hf := mm_if0 hc hf
      refine lv_iload_n hx hb dX7_set_37 rfl (lv_at hl 1 rfl) ?_
      refine lv_if_ne (tgt := 51) hx hb dX7_set_38 (by decide) (fun hc => ?_) (fun hc => ?_)
      · have hf := mm_if0 hc hf
        exact J51 M x0 x1 x2 H locs ls hR hS (lv_sub hl [0, 1, 2] rfl) hf
      · have hf := mm_if1 hc hf
        refine lv_aload_n hx hb dX7_set_41 rfl (lv_at hl 0 rfl) ?_
        obtain ⟨u21, eu21, hf⟩ := mm_bd hf
        obtain ⟨v22, ev22, hf⟩ := mm_bd hf
        refine mm_callVi (As := []) (rest := []) C hR hS hl.1 vs_X7_59 eu21 (jj_X7_laidCells l g A M x0 v22 ev22) ⟨rfl, rfl, (Nat.le_of_ble_eq_true rfl), (Nat.le_of_ble_eq_true rfl)⟩ rfl (Nat.le_of_ble_eq_true rfl) ⟨Nat.zero_le _, Nat.zero_le _⟩ rfl dX7_set_42 (fun H locs hR hS => ?_)
        refine lv_if_le (tgt := 51) hx hb dX7_set_45 (by decide) (fun hc => ?_) (fun hc => ?_)
        · have hf := mm_if1 hc hf
          exact J51 M x0 x1 x2 H locs ls hR hS (lv_sub hl [0, 1, 2] rfl) hf
        · have hf := mm_if0 hc hf
          refine lv_bipush (v := -2) hx hb dX7_set_48 (by decide) ?_
          exact mm_ire C hR hS hr ((mm_pe hf).1) (mm_pe hf).2 dX7_set_50
    · have hf := mm_if1 hc hf
      refine lv_iconst (v := -1) hx hb dX7_set_35 (by decide) ?_
      exact mm_ire C hR hS hr ((mm_pe hf).1) (mm_pe hf).2 dX7_set_36
  have J19 : ∀ (M : mm_M) (x0 : Nat) (x1 : Int32) (x2 : Int32) (y0 : Int32) (y1 : Int32) (H : Heap) (locs : List Loc) (ls : Array Slot), mm_R g A M H → va_S A s.heap H locs → lv_has ls 5 [(0, .ref x0), (1, .int x1), (2, .int x2)] → ff_X7_set_j19 M x0 x1 x2 y0 y1 = some (r, M2) → W p l e rm_X7_set s m args below meth c H locs 0 0 (MQ below (mm_Ti g A r M2) args s 0 0 A) (F0 m 19 ls [.int y0, .int y1]) := by
    intro M x0 x1 x2 y0 y1 H locs ls hR hS hl hf
    unfold ff_X7_set_j19 at hf
    refine lv_iload_n hx hb dX7_set_19 rfl (lv_at hl 1 rfl) ?_
    refine lv_if_ne (tgt := 28) hx hb dX7_set_20 (by decide) (fun hc => ?_) (fun hc => ?_)
    · have hf := mm_if0 hc hf
      refine lv_iconst (v := 5) hx hb dX7_set_28 (by decide) ?_
      exact J29 M x0 x1 x2 (5 : Int32) y0 y1 H locs ls hR hS (lv_sub hl [0, 1, 2] rfl) hf
    · have hf := mm_if1 hc hf
      refine lv_bipush (v := 60) hx hb dX7_set_23 (by decide) ?_
      refine lv_goto (tgt := 29) hx hb dX7_set_25 (by decide) ?_
      exact J29 M x0 x1 x2 (60 : Int32) y0 y1 H locs ls hR hS (lv_sub hl [0, 1, 2] rfl) hf
  unfold ff_X7_set at hf
  refine lv_iload_n hx hb dX7_set_0 rfl (lv_at hl 1 rfl) ?_
  refine lv_iconst (v := 0) hx hb dX7_set_1 (by decide) ?_
  refine lv_iconst (v := 1) hx hb dX7_set_2 (by decide) ?_
  obtain ⟨v1, ev1, hf⟩ := mm_bd hf
  refine mm_callSi (As := [.int x1, .int (0 : Int32), .int (1 : Int32)]) (rest := []) C hR hS hl.1 ss_X7_37 (jj_X7_in l g A M x1 (0 : Int32) (1 : Int32) v1 ev1) ⟨rfl, rfl, (Nat.le_of_ble_eq_true rfl), (Nat.le_of_ble_eq_true rfl)⟩ rfl (Nat.le_of_ble_eq_true rfl) ⟨Nat.zero_le _, Nat.zero_le _⟩ rfl dX7_set_3 (fun H locs hR hS => ?_)
  refine lv_if_eq (tgt := 35) hx hb dX7_set_6 (by decide) (fun hc => ?_) (fun hc => ?_)
  · have hf := mm_if1 hc hf
    refine lv_iconst (v := -1) hx hb dX7_set_35 (by decide) ?_
    exact mm_ire C hR hS hr ((mm_pe hf).1) (mm_pe hf).2 dX7_set_36
  · have hf := mm_if0 hc hf
    refine lv_iload_n hx hb dX7_set_9 rfl (lv_at hl 2 rfl) ?_
    refine lv_iload_n hx hb dX7_set_10 rfl (lv_at hl 1 rfl) ?_
    refine lv_if_ne (tgt := 18) hx hb dX7_set_11 (by decide) (fun hc => ?_) (fun hc => ?_)
    · have hf := mm_if0 hc hf
      refine lv_iconst (v := 0) hx hb dX7_set_18 (by decide) ?_
      exact J19 M x0 x1 x2 (0 : Int32) x2 H locs ls hR hS (lv_sub hl [0, 1, 2] rfl) hf
    · have hf := mm_if1 hc hf
      refine lv_iconst (v := 5) hx hb dX7_set_14 (by decide) ?_
      refine lv_goto (tgt := 19) hx hb dX7_set_15 (by decide) ?_
      exact J19 M x0 x1 x2 (5 : Int32) x2 H locs ls hR hS (lv_sub hl [0, 1, 2] rfl) hf
def ff_X7_way (M : mm_M) (x0 : Nat) (x1 : Int32) : Option ((Int32 × mm_M)) := Option.bind (ff_X7_in M x1 (0 : Int32) (2 : Int32)) fun v1 => if v1 = (0 : Int32) then (some ((-1 : Int32), M)) else (Option.bind (mm_ck 7 M x0) fun u2 => Option.bind (ff_X7_laidCells M x0) fun v3 => if v3 ≤ (0 : Int32) then (Option.bind (mm_ck 7 M x0) fun u4 => Option.bind (ff_X7_keep M x0) fun M5 => Option.bind (mm_gR 7 M5 x0 0) fun v6 => Option.bind (mm_aI 0 M5 v6 (5 : Int32)) fun v7 => Option.bind (mm_gR 7 M5 x0 0) fun v8 => Option.bind (mm_sI 0 M5 v8 (5 : Int32) x1) fun M9 => some (v7, M9)) else (some ((-2 : Int32), M)))
def rm_X7_way : Room := { frames := 2, cells := 0, slots := 0, locals := 45 }
set_option maxHeartbeats 4000000 in
set_option maxRecDepth 100000 in
theorem jj_X7_way (l : Launch) (g : mm_G) (A : Nat → Prop) (M : mm_M) (x0 : Nat) (x1 : Int32) (r : Int32) (M2 : mm_M) (hf : ff_X7_way M x0 x1 = some (r, M2)) : Met l yX7_way (mm_ws yX7_way cX7_way 3 (Option.some Jvm.ClassFile.FieldType.int)) rm_X7_way (va_Pc [.ref x0, .int x1] (mm_B g A M)) (mm_Ti g A r M2) 0 0 A := by
  refine mm_met (g := g) (lv := [(0, .ref x0), (1, .int x1)]) (fun U h => h.2) (by decide +kernel) (Nat.le_of_ble_eq_true rfl) rfl ?_
  intro p e s m args below meth c ls C hr hnm hB hl
  obtain ⟨hR, hK⟩ := hB
  have hx := C.1
  have hb := C.2.1
  suffices hmain : ∀ (H : Heap) (locs : List Loc), mm_R g A M H → va_S A s.heap H locs → W p l e rm_X7_way s m args below meth c H locs 0 0 (MQ below (mm_Ti g A r M2) args s 0 0 A) (F0 m 0 ls []) from hmain _ _ hR va_S.rf
  clear hR
  intro H locs hR hS
  unfold ff_X7_way at hf
  refine lv_iload_n hx hb dX7_way_0 rfl (lv_at hl 1 rfl) ?_
  refine lv_iconst (v := 0) hx hb dX7_way_1 (by decide) ?_
  refine lv_iconst (v := 2) hx hb dX7_way_2 (by decide) ?_
  obtain ⟨v1, ev1, hf⟩ := mm_bd hf
  refine mm_callSi (As := [.int x1, .int (0 : Int32), .int (2 : Int32)]) (rest := []) C hR hS hl.1 ss_X7_37 (jj_X7_in l g A M x1 (0 : Int32) (2 : Int32) v1 ev1) ⟨rfl, rfl, (Nat.le_of_ble_eq_true rfl), (Nat.le_of_ble_eq_true rfl)⟩ rfl (Nat.le_of_ble_eq_true rfl) ⟨Nat.zero_le _, Nat.zero_le _⟩ rfl dX7_way_3 (fun H locs hR hS => ?_)
  refine lv_if_ne (tgt := 11) hx hb dX7_way_6 (by decide) (fun hc => ?_) (fun hc => ?_)
  · have hf := mm_if0 hc hf
    refine lv_aload_n hx hb dX7_way_11 rfl (lv_at hl 0 rfl) ?_
    obtain ⟨u2, eu2, hf⟩ := mm_bd hf
    obtain ⟨v3, ev3, hf⟩ := mm_bd hf
    refine mm_callVi (As := []) (rest := []) C hR hS hl.1 vs_X7_59 eu2 (jj_X7_laidCells l g A M x0 v3 ev3) ⟨rfl, rfl, (Nat.le_of_ble_eq_true rfl), (Nat.le_of_ble_eq_true rfl)⟩ rfl (Nat.le_of_ble_eq_true rfl) ⟨Nat.zero_le _, Nat.zero_le _⟩ rfl dX7_way_12 (fun H locs hR hS => ?_)
    refine lv_if_le (tgt := 21) hx hb dX7_way_15 (by decide) (fun hc => ?_) (fun hc => ?_)
    · have hf := mm_if1 hc hf
      refine lv_aload_n hx hb dX7_way_21 rfl (lv_at hl 0 rfl) ?_
      obtain ⟨u4, eu4, hf⟩ := mm_bd hf
      obtain ⟨M5, eM5, hf⟩ := mm_bd hf
      refine mm_callVv (As := []) (rest := []) C hR hS hl.1 vs_X7_62 eu4 (jj_X7_keep l g A M x0 M5 eM5) ⟨rfl, rfl, (Nat.le_of_ble_eq_true rfl), (Nat.le_of_ble_eq_true rfl)⟩ rfl (Nat.le_of_ble_eq_true rfl) ⟨Nat.zero_le _, Nat.zero_le _⟩ rfl dX7_way_22 (fun H locs hR hS => ?_)
      refine lv_aload_n hx hb dX7_way_25 rfl (lv_at hl 0 rfl) ?_
      obtain ⟨v6, ev6, hf⟩ := mm_bd hf
      refine mm_getR C hR fs_X7_7 ev6 dX7_way_26 ?_
      refine lv_iconst (v := 5) hx hb dX7_way_29 (by decide) ?_
      obtain ⟨v7, ev7, hf⟩ := mm_bd hf
      refine mm_iald C hR ev7 dX7_way_30 ?_
      refine lv_istore_n (lv' := [(2, .int v7), (0, .ref x0), (1, .int x1)]) hx hb dX7_way_31 rfl hl (by decide) rfl (fun ls hl => ?_)
      refine lv_aload_n hx hb dX7_way_32 rfl (lv_at hl 1 rfl) ?_
      obtain ⟨v8, ev8, hf⟩ := mm_bd hf
      refine mm_getR C hR fs_X7_7 ev8 dX7_way_33 ?_
      refine lv_iconst (v := 5) hx hb dX7_way_36 (by decide) ?_
      refine lv_iload_n hx hb dX7_way_37 rfl (lv_at hl 2 rfl) ?_
      obtain ⟨M9, eM9, hf⟩ := mm_bd hf
      refine mm_iast C hR hS eM9 dX7_way_38 (fun H locs hR hS => ?_)
      refine lv_iload_n hx hb dX7_way_39 rfl (lv_at hl 0 rfl) ?_
      exact mm_ire C hR hS hr ((mm_pe hf).1) (mm_pe hf).2 dX7_way_40
    · have hf := mm_if0 hc hf
      refine lv_bipush (v := -2) hx hb dX7_way_18 (by decide) ?_
      exact mm_ire C hR hS hr ((mm_pe hf).1) (mm_pe hf).2 dX7_way_20
  · have hf := mm_if1 hc hf
    refine lv_iconst (v := -1) hx hb dX7_way_9 (by decide) ?_
    exact mm_ire C hR hS hr ((mm_pe hf).1) (mm_pe hf).2 dX7_way_10
def ff_X7_want (M : mm_M) (x0 : Nat) (x1 : Int32) (x2 : Int32) (x3 : Int32) : Option ((Int32 × mm_M)) := Option.bind (mm_ck 7 M x0) fun u1 => Option.bind (ff_X7_isCell M x0 x1 x2) fun v2 => if v2 = (0 : Int32) then (some ((-1 : Int32), M)) else (Option.bind (ff_X7_in M x3 (0 : Int32) (99 : Int32)) fun v3 => if v3 = (0 : Int32) then (some ((-1 : Int32), M)) else (Option.bind (mm_gR 7 M x0 0) fun v4 => Option.bind (mm_aI 0 M v4 (0 : Int32)) fun v5 => Option.bind (mm_ck 7 M x0) fun u6 => Option.bind (ff_X7_borderOf M x0 x1 x2) fun v7 => if v7 = (-1 : Int32) then (Option.bind (mm_gR 7 M x0 0) fun v8 => Option.bind (mm_aI 0 M v8 ((164 : Int32) + (x1 + (x2 * v5)))) fun v9 => if v9 = (-1 : Int32) then (Option.bind (mm_ck 7 M x0) fun u10 => Option.bind (ff_X7_keep M x0) fun M11 => Option.bind (mm_gR 7 M11 x0 0) fun v12 => Option.bind (mm_aI 0 M11 v12 ((20 : Int32) + (x1 + (x2 * v5)))) fun v13 => Option.bind (mm_gR 7 M11 x0 0) fun v14 => Option.bind (mm_sI 0 M11 v14 ((20 : Int32) + (x1 + (x2 * v5))) x3) fun M15 => some (v13, M15)) else (some ((-2 : Int32), M))) else (some ((-2 : Int32), M))))
def rm_X7_want : Room := { frames := 2, cells := 0, slots := 0, locals := 45 }
set_option maxHeartbeats 4000000 in
set_option maxRecDepth 100000 in
theorem jj_X7_want (l : Launch) (g : mm_G) (A : Nat → Prop) (M : mm_M) (x0 : Nat) (x1 : Int32) (x2 : Int32) (x3 : Int32) (r : Int32) (M2 : mm_M) (hf : ff_X7_want M x0 x1 x2 x3 = some (r, M2)) : Met l yX7_want (mm_ws yX7_want cX7_want 6 (Option.some Jvm.ClassFile.FieldType.int)) rm_X7_want (va_Pc [.ref x0, .int x1, .int x2, .int x3] (mm_B g A M)) (mm_Ti g A r M2) 0 0 A := by
  refine mm_met (g := g) (lv := [(0, .ref x0), (1, .int x1), (2, .int x2), (3, .int x3)]) (fun U h => h.2) (by decide +kernel) (Nat.le_of_ble_eq_true rfl) rfl ?_
  intro p e s m args below meth c ls C hr hnm hB hl
  obtain ⟨hR, hK⟩ := hB
  have hx := C.1
  have hb := C.2.1
  suffices hmain : ∀ (H : Heap) (locs : List Loc), mm_R g A M H → va_S A s.heap H locs → W p l e rm_X7_want s m args below meth c H locs 0 0 (MQ below (mm_Ti g A r M2) args s 0 0 A) (F0 m 0 ls []) from hmain _ _ hR va_S.rf
  clear hR
  intro H locs hR hS
  unfold ff_X7_want at hf
  refine lv_aload_n hx hb dX7_want_0 rfl (lv_at hl 0 rfl) ?_
  refine lv_iload_n hx hb dX7_want_1 rfl (lv_at hl 1 rfl) ?_
  refine lv_iload_n hx hb dX7_want_2 rfl (lv_at hl 2 rfl) ?_
  obtain ⟨u1, eu1, hf⟩ := mm_bd hf
  obtain ⟨v2, ev2, hf⟩ := mm_bd hf
  refine mm_callVi (As := [.int x1, .int x2]) (rest := []) C hR hS hl.1 vs_X7_68 eu1 (jj_X7_isCell l g A M x0 x1 x2 v2 ev2) ⟨rfl, rfl, (Nat.le_of_ble_eq_true rfl), (Nat.le_of_ble_eq_true rfl)⟩ rfl (Nat.le_of_ble_eq_true rfl) ⟨Nat.zero_le _, Nat.zero_le _⟩ rfl dX7_want_3 (fun H locs hR hS => ?_)
  refine lv_if_eq (tgt := 19) hx hb dX7_want_6 (by decide) (fun hc => ?_) (fun hc => ?_)
  · have hf := mm_if1 hc hf
    refine lv_iconst (v := -1) hx hb dX7_want_19 (by decide) ?_
    exact mm_ire C hR hS hr ((mm_pe hf).1) (mm_pe hf).2 dX7_want_20
  · have hf := mm_if0 hc hf
    refine lv_iload_n hx hb dX7_want_9 rfl (lv_at hl 3 rfl) ?_
    refine lv_iconst (v := 0) hx hb dX7_want_10 (by decide) ?_
    refine lv_bipush (v := 99) hx hb dX7_want_11 (by decide) ?_
    obtain ⟨v3, ev3, hf⟩ := mm_bd hf
    refine mm_callSi (As := [.int x3, .int (0 : Int32), .int (99 : Int32)]) (rest := []) C hR hS hl.1 ss_X7_37 (jj_X7_in l g A M x3 (0 : Int32) (99 : Int32) v3 ev3) ⟨rfl, rfl, (Nat.le_of_ble_eq_true rfl), (Nat.le_of_ble_eq_true rfl)⟩ rfl (Nat.le_of_ble_eq_true rfl) ⟨Nat.zero_le _, Nat.zero_le _⟩ rfl dX7_want_13 (fun H locs hR hS => ?_)
    refine lv_if_ne (tgt := 21) hx hb dX7_want_16 (by decide) (fun hc => ?_) (fun hc => ?_)
    · have hf := mm_if0 hc hf
      refine lv_iload_n hx hb dX7_want_21 rfl (lv_at hl 1 rfl) ?_
      refine lv_iload_n hx hb dX7_want_22 rfl (lv_at hl 2 rfl) ?_
      refine lv_aload_n hx hb dX7_want_23 rfl (lv_at hl 0 rfl) ?_
      obtain ⟨v4, ev4, hf⟩ := mm_bd hf
      refine mm_getR C hR fs_X7_7 ev4 dX7_want_24 ?_
      refine lv_iconst (v := 0) hx hb dX7_want_27 (by decide) ?_
      obtain ⟨v5, ev5, hf⟩ := mm_bd hf
      refine mm_iald C hR ev5 dX7_want_28 ?_
      refine lv_imul hx hb dX7_want_29 ?_
      refine lv_iadd hx hb dX7_want_30 ?_
      refine lv_istore (lv' := [(4, .int (x1 + (x2 * v5))), (0, .ref x0), (1, .int x1), (2, .int x2), (3, .int x3)]) hx hb dX7_want_31 hl (by decide) rfl (fun ls hl => ?_)
      refine lv_aload_n hx hb dX7_want_33 rfl (lv_at hl 1 rfl) ?_
      refine lv_iload_n hx hb dX7_want_34 rfl (lv_at hl 2 rfl) ?_
      refine lv_iload_n hx hb dX7_want_35 rfl (lv_at hl 3 rfl) ?_
      obtain ⟨u6, eu6, hf⟩ := mm_bd hf
      obtain ⟨v7, ev7, hf⟩ := mm_bd hf
      refine mm_callVi (As := [.int x1, .int x2]) (rest := []) C hR hS hl.1 vs_X7_49 eu6 (jj_X7_borderOf l g A M x0 x1 x2 v7 ev7) ⟨rfl, rfl, (Nat.le_of_ble_eq_true rfl), (Nat.le_of_ble_eq_true rfl)⟩ rfl (Nat.le_of_ble_eq_true rfl) ⟨Nat.zero_le _, Nat.zero_le _⟩ rfl dX7_want_36 (fun H locs hR hS => ?_)
      refine lv_iconst (v := -1) hx hb dX7_want_39 (by decide) ?_
      refine lv_icmp_ne (tgt := 58) hx hb dX7_want_40 (by decide) (fun hc => ?_) (fun hc => ?_)
      · have hf := mm_if0 hc hf
        refine lv_bipush (v := -2) hx hb dX7_want_58 (by decide) ?_
        exact mm_ire C hR hS hr ((mm_pe hf).1) (mm_pe hf).2 dX7_want_60
      · have hf := mm_if1 hc hf
        refine lv_aload_n hx hb dX7_want_43 rfl (lv_at hl 1 rfl) ?_
        obtain ⟨v8, ev8, hf⟩ := mm_bd hf
        refine mm_getR C hR fs_X7_7 ev8 dX7_want_44 ?_
        refine lv_sipush (v := 164) hx hb dX7_want_47 (by decide) ?_
        refine lv_iload hx hb dX7_want_50 (lv_at hl 0 rfl) ?_
        refine lv_iadd hx hb dX7_want_52 ?_
        obtain ⟨v9, ev9, hf⟩ := mm_bd hf
        refine mm_iald C hR ev9 dX7_want_53 ?_
        refine lv_iconst (v := -1) hx hb dX7_want_54 (by decide) ?_
        refine lv_icmp_eq (tgt := 61) hx hb dX7_want_55 (by decide) (fun hc => ?_) (fun hc => ?_)
        · have hf := mm_if1 hc hf
          refine lv_aload_n hx hb dX7_want_61 rfl (lv_at hl 1 rfl) ?_
          obtain ⟨u10, eu10, hf⟩ := mm_bd hf
          obtain ⟨M11, eM11, hf⟩ := mm_bd hf
          refine mm_callVv (As := []) (rest := []) C hR hS hl.1 vs_X7_62 eu10 (jj_X7_keep l g A M x0 M11 eM11) ⟨rfl, rfl, (Nat.le_of_ble_eq_true rfl), (Nat.le_of_ble_eq_true rfl)⟩ rfl (Nat.le_of_ble_eq_true rfl) ⟨Nat.zero_le _, Nat.zero_le _⟩ rfl dX7_want_62 (fun H locs hR hS => ?_)
          refine lv_aload_n hx hb dX7_want_65 rfl (lv_at hl 1 rfl) ?_
          obtain ⟨v12, ev12, hf⟩ := mm_bd hf
          refine mm_getR C hR fs_X7_7 ev12 dX7_want_66 ?_
          refine lv_bipush (v := 20) hx hb dX7_want_69 (by decide) ?_
          refine lv_iload hx hb dX7_want_71 (lv_at hl 0 rfl) ?_
          refine lv_iadd hx hb dX7_want_73 ?_
          obtain ⟨v13, ev13, hf⟩ := mm_bd hf
          refine mm_iald C hR ev13 dX7_want_74 ?_
          refine lv_istore (lv' := [(5, .int v13), (4, .int (x1 + (x2 * v5))), (0, .ref x0), (1, .int x1), (2, .int x2), (3, .int x3)]) hx hb dX7_want_75 hl (by decide) rfl (fun ls hl => ?_)
          refine lv_aload_n hx hb dX7_want_77 rfl (lv_at hl 2 rfl) ?_
          obtain ⟨v14, ev14, hf⟩ := mm_bd hf
          refine mm_getR C hR fs_X7_7 ev14 dX7_want_78 ?_
          refine lv_bipush (v := 20) hx hb dX7_want_81 (by decide) ?_
          refine lv_iload hx hb dX7_want_83 (lv_at hl 1 rfl) ?_
          refine lv_iadd hx hb dX7_want_85 ?_
          refine lv_iload_n hx hb dX7_want_86 rfl (lv_at hl 5 rfl) ?_
          obtain ⟨M15, eM15, hf⟩ := mm_bd hf
          refine mm_iast C hR hS eM15 dX7_want_87 (fun H locs hR hS => ?_)
          refine lv_iload hx hb dX7_want_88 (lv_at hl 0 rfl) ?_
          exact mm_ire C hR hS hr ((mm_pe hf).1) (mm_pe hf).2 dX7_want_90
        · have hf := mm_if0 hc hf
          refine lv_bipush (v := -2) hx hb dX7_want_58 (by decide) ?_
          exact mm_ire C hR hS hr ((mm_pe hf).1) (mm_pe hf).2 dX7_want_60
    · have hf := mm_if1 hc hf
      refine lv_iconst (v := -1) hx hb dX7_want_19 (by decide) ?_
      exact mm_ire C hR hS hr ((mm_pe hf).1) (mm_pe hf).2 dX7_want_20
def ff_X7_difference (M : mm_M) (x0 : Nat) (x1 : Int32) : Option Int32 := Option.bind (mm_ck 7 M x0) fun u1 => Option.bind (ff_X7_wanted M x0 x1) fun v2 => Option.bind (mm_gR 7 M x0 0) fun v3 => Option.bind (mm_aI 0 M v3 ((164 : Int32) + x1)) fun v4 => Option.bind (ff_X7_size M (v2 - v4)) fun v5 => some v5
def rm_X7_difference : Room := { frames := 3, cells := 0, slots := 0, locals := 68 }
set_option maxHeartbeats 4000000 in
set_option maxRecDepth 100000 in
theorem jj_X7_difference (l : Launch) (g : mm_G) (A : Nat → Prop) (M : mm_M) (x0 : Nat) (x1 : Int32) (r : Int32) (hf : ff_X7_difference M x0 x1 = some r) : Met l yX7_difference (mm_ws yX7_difference cX7_difference 2 (Option.some Jvm.ClassFile.FieldType.int)) rm_X7_difference (va_Pc [.ref x0, .int x1] (mm_B g A M)) (mm_Ti g A r M) 0 0 A := by
  refine mm_met (g := g) (lv := [(0, .ref x0), (1, .int x1)]) (fun U h => h.2) (by decide +kernel) (Nat.le_of_ble_eq_true rfl) rfl ?_
  intro p e s m args below meth c ls C hr hnm hB hl
  obtain ⟨hR, hK⟩ := hB
  have hx := C.1
  have hb := C.2.1
  suffices hmain : ∀ (H : Heap) (locs : List Loc), mm_R g A M H → va_S A s.heap H locs → W p l e rm_X7_difference s m args below meth c H locs 0 0 (MQ below (mm_Ti g A r M) args s 0 0 A) (F0 m 0 ls []) from hmain _ _ hR va_S.rf
  clear hR
  intro H locs hR hS
  unfold ff_X7_difference at hf
  refine lv_aload_n hx hb dX7_difference_0 rfl (lv_at hl 0 rfl) ?_
  refine lv_iload_n hx hb dX7_difference_1 rfl (lv_at hl 1 rfl) ?_
  obtain ⟨u1, eu1, hf⟩ := mm_bd hf
  obtain ⟨v2, ev2, hf⟩ := mm_bd hf
  refine mm_callVi (As := [.int x1]) (rest := []) C hR hS hl.1 vs_X7_72 eu1 (jj_X7_wanted l g A M x0 x1 v2 ev2) ⟨rfl, rfl, (Nat.le_of_ble_eq_true rfl), (Nat.le_of_ble_eq_true rfl)⟩ rfl (Nat.le_of_ble_eq_true rfl) ⟨Nat.zero_le _, Nat.zero_le _⟩ rfl dX7_difference_2 (fun H locs hR hS => ?_)
  refine lv_aload_n hx hb dX7_difference_5 rfl (lv_at hl 0 rfl) ?_
  obtain ⟨v3, ev3, hf⟩ := mm_bd hf
  refine mm_getR C hR fs_X7_7 ev3 dX7_difference_6 ?_
  refine lv_sipush (v := 164) hx hb dX7_difference_9 (by decide) ?_
  refine lv_iload_n hx hb dX7_difference_12 rfl (lv_at hl 1 rfl) ?_
  refine lv_iadd hx hb dX7_difference_13 ?_
  obtain ⟨v4, ev4, hf⟩ := mm_bd hf
  refine mm_iald C hR ev4 dX7_difference_14 ?_
  refine lv_isub hx hb dX7_difference_15 ?_
  obtain ⟨v5, ev5, hf⟩ := mm_bd hf
  refine mm_callSi (As := [.int (v2 - v4)]) (rest := []) C hR hS hl.1 ss_X7_75 (jj_X7_size l g A M (v2 - v4) v5 ev5) ⟨rfl, rfl, (Nat.le_of_ble_eq_true rfl), (Nat.le_of_ble_eq_true rfl)⟩ rfl (Nat.le_of_ble_eq_true rfl) ⟨Nat.zero_le _, Nat.zero_le _⟩ rfl dX7_difference_16 (fun H locs hR hS => ?_)
  exact mm_ire C hR hS hr ((Option.some.inj hf)) rfl dX7_difference_19
def ff_X7_cellOf (M : mm_M) (x0 : Nat) (x1 : Int32) (x2 : Int32) (x3 : Int32) : Option Int32 := Option.bind (mm_gR 7 M x0 0) fun v1 => Option.bind (mm_aI 0 M v1 (0 : Int32)) fun v2 => if x3 = (0 : Int32) then (Option.bind (mm_ck 7 M x0) fun u4 => Option.bind (ff_X7_wanted M x0 (x1 + (x2 * v2))) fun v5 => some v5) else (if x3 = (1 : Int32) then (Option.bind (mm_gR 7 M x0 0) fun v7 => Option.bind (mm_aI 0 M v7 ((164 : Int32) + (x1 + (x2 * v2)))) fun v8 => if v8 = (-1 : Int32) then (some (-4 : Int32)) else (Option.bind (mm_gR 7 M x0 0) fun v9 => Option.bind (mm_aI 0 M v9 ((164 : Int32) + (x1 + (x2 * v2)))) fun v10 => some v10)) else (if x3 = (2 : Int32) then (Option.bind (mm_gR 7 M x0 0) fun v12 => Option.bind (mm_aI 0 M v12 ((164 : Int32) + (x1 + (x2 * v2)))) fun v13 => if v13 = (-1 : Int32) then (some (-4 : Int32)) else (Option.bind (mm_ck 7 M x0) fun u14 => Option.bind (ff_X7_difference M x0 (x1 + (x2 * v2))) fun v15 => some v15)) else (Option.bind (mm_ck 7 M x0) fun u16 => Option.bind (ff_X7_borderOf M x0 x1 x2) fun v17 => if v17 = (-1 : Int32) then (some (-4 : Int32)) else (Option.bind (mm_ck 7 M x0) fun u18 => Option.bind (ff_X7_borderOf M x0 x1 x2) fun v19 => some v19))))
def rm_X7_cellOf : Room := { frames := 4, cells := 0, slots := 0, locals := 89 }
set_option maxHeartbeats 4000000 in
set_option maxRecDepth 100000 in
theorem jj_X7_cellOf (l : Launch) (g : mm_G) (A : Nat → Prop) (M : mm_M) (x0 : Nat) (x1 : Int32) (x2 : Int32) (x3 : Int32) (r : Int32) (hf : ff_X7_cellOf M x0 x1 x2 x3 = some r) : Met l yX7_cellOf (mm_ws yX7_cellOf cX7_cellOf 5 (Option.some Jvm.ClassFile.FieldType.int)) rm_X7_cellOf (va_Pc [.ref x0, .int x1, .int x2, .int x3] (mm_B g A M)) (mm_Ti g A r M) 0 0 A := by
  refine mm_met (g := g) (lv := [(0, .ref x0), (1, .int x1), (2, .int x2), (3, .int x3)]) (fun U h => h.2) (by decide +kernel) (Nat.le_of_ble_eq_true rfl) rfl ?_
  intro p e s m args below meth c ls C hr hnm hB hl
  obtain ⟨hR, hK⟩ := hB
  have hx := C.1
  have hb := C.2.1
  suffices hmain : ∀ (H : Heap) (locs : List Loc), mm_R g A M H → va_S A s.heap H locs → W p l e rm_X7_cellOf s m args below meth c H locs 0 0 (MQ below (mm_Ti g A r M) args s 0 0 A) (F0 m 0 ls []) from hmain _ _ hR va_S.rf
  clear hR
  intro H locs hR hS
  unfold ff_X7_cellOf at hf
  refine lv_iload_n hx hb dX7_cellOf_0 rfl (lv_at hl 1 rfl) ?_
  refine lv_iload_n hx hb dX7_cellOf_1 rfl (lv_at hl 2 rfl) ?_
  refine lv_aload_n hx hb dX7_cellOf_2 rfl (lv_at hl 0 rfl) ?_
  obtain ⟨v1, ev1, hf⟩ := mm_bd hf
  refine mm_getR C hR fs_X7_7 ev1 dX7_cellOf_3 ?_
  refine lv_iconst (v := 0) hx hb dX7_cellOf_6 (by decide) ?_
  obtain ⟨v2, ev2, hf⟩ := mm_bd hf
  refine mm_iald C hR ev2 dX7_cellOf_7 ?_
  refine lv_imul hx hb dX7_cellOf_8 ?_
  refine lv_iadd hx hb dX7_cellOf_9 ?_
  refine lv_istore (lv' := [(4, .int (x1 + (x2 * v2))), (0, .ref x0), (1, .int x1), (2, .int x2), (3, .int x3)]) hx hb dX7_cellOf_10 hl (by decide) rfl (fun ls hl => ?_)
  refine lv_iload_n hx hb dX7_cellOf_12 rfl (lv_at hl 4 rfl) ?_
  by_cases hk3 : x3 = (0 : Int32)
  · have hf := mm_if1 hk3 hf
    refine lv_tableIn (off := 27) (tgt := 40) hx hb dX7_cellOf_13 (by rw [hk3]; decide) (by rw [hk3]; decide) (by rw [hk3]; decide +kernel) (by decide) ?_
    refine lv_aload_n hx hb dX7_cellOf_40 rfl (lv_at hl 1 rfl) ?_
    refine lv_iload hx hb dX7_cellOf_41 (lv_at hl 0 rfl) ?_
    obtain ⟨u4, eu4, hf⟩ := mm_bd hf
    obtain ⟨v5, ev5, hf⟩ := mm_bd hf
    refine mm_callVi (As := [.int (x1 + (x2 * v2))]) (rest := []) C hR hS hl.1 vs_X7_72 eu4 (jj_X7_wanted l g A M x0 (x1 + (x2 * v2)) v5 ev5) ⟨rfl, rfl, (Nat.le_of_ble_eq_true rfl), (Nat.le_of_ble_eq_true rfl)⟩ rfl (Nat.le_of_ble_eq_true rfl) ⟨Nat.zero_le _, Nat.zero_le _⟩ rfl dX7_cellOf_43 (fun H locs hR hS => ?_)
    exact mm_ire C hR hS hr ((Option.some.inj hf)) rfl dX7_cellOf_46
  · have hf := mm_if0 hk3 hf
    by_cases hk6 : x3 = (1 : Int32)
    · have hf := mm_if1 hk6 hf
      refine lv_tableIn (off := 34) (tgt := 47) hx hb dX7_cellOf_13 (by rw [hk6]; decide) (by rw [hk6]; decide) (by rw [hk6]; decide +kernel) (by decide) ?_
      refine lv_aload_n hx hb dX7_cellOf_47 rfl (lv_at hl 1 rfl) ?_
      obtain ⟨v7, ev7, hf⟩ := mm_bd hf
      refine mm_getR C hR fs_X7_7 ev7 dX7_cellOf_48 ?_
      refine lv_sipush (v := 164) hx hb dX7_cellOf_51 (by decide) ?_
      refine lv_iload hx hb dX7_cellOf_54 (lv_at hl 0 rfl) ?_
      refine lv_iadd hx hb dX7_cellOf_56 ?_
      obtain ⟨v8, ev8, hf⟩ := mm_bd hf
      refine mm_iald C hR ev8 dX7_cellOf_57 ?_
      refine lv_iconst (v := -1) hx hb dX7_cellOf_58 (by decide) ?_
      refine lv_icmp_ne (tgt := 67) hx hb dX7_cellOf_59 (by decide) (fun hc => ?_) (fun hc => ?_)
      · have hf := mm_if0 hc hf
        refine lv_aload_n hx hb dX7_cellOf_67 rfl (lv_at hl 1 rfl) ?_
        obtain ⟨v9, ev9, hf⟩ := mm_bd hf
        refine mm_getR C hR fs_X7_7 ev9 dX7_cellOf_68 ?_
        refine lv_sipush (v := 164) hx hb dX7_cellOf_71 (by decide) ?_
        refine lv_iload hx hb dX7_cellOf_74 (lv_at hl 0 rfl) ?_
        refine lv_iadd hx hb dX7_cellOf_76 ?_
        obtain ⟨v10, ev10, hf⟩ := mm_bd hf
        refine mm_iald C hR ev10 dX7_cellOf_77 ?_
        exact mm_ire C hR hS hr ((Option.some.inj hf)) rfl dX7_cellOf_78
      · have hf := mm_if1 hc hf
        refine lv_bipush (v := -4) hx hb dX7_cellOf_62 (by decide) ?_
        refine lv_goto (tgt := 78) hx hb dX7_cellOf_64 (by decide) ?_
        exact mm_ire C hR hS hr ((Option.some.inj hf)) rfl dX7_cellOf_78
    · have hf := mm_if0 hk6 hf
      by_cases hk11 : x3 = (2 : Int32)
      · have hf := mm_if1 hk11 hf
        refine lv_tableIn (off := 66) (tgt := 79) hx hb dX7_cellOf_13 (by rw [hk11]; decide) (by rw [hk11]; decide) (by rw [hk11]; decide +kernel) (by decide) ?_
        refine lv_aload_n hx hb dX7_cellOf_79 rfl (lv_at hl 1 rfl) ?_
        obtain ⟨v12, ev12, hf⟩ := mm_bd hf
        refine mm_getR C hR fs_X7_7 ev12 dX7_cellOf_80 ?_
        refine lv_sipush (v := 164) hx hb dX7_cellOf_83 (by decide) ?_
        refine lv_iload hx hb dX7_cellOf_86 (lv_at hl 0 rfl) ?_
        refine lv_iadd hx hb dX7_cellOf_88 ?_
        obtain ⟨v13, ev13, hf⟩ := mm_bd hf
        refine mm_iald C hR ev13 dX7_cellOf_89 ?_
        refine lv_iconst (v := -1) hx hb dX7_cellOf_90 (by decide) ?_
        refine lv_icmp_ne (tgt := 99) hx hb dX7_cellOf_91 (by decide) (fun hc => ?_) (fun hc => ?_)
        · have hf := mm_if0 hc hf
          refine lv_aload_n hx hb dX7_cellOf_99 rfl (lv_at hl 1 rfl) ?_
          refine lv_iload hx hb dX7_cellOf_100 (lv_at hl 0 rfl) ?_
          obtain ⟨u14, eu14, hf⟩ := mm_bd hf
          obtain ⟨v15, ev15, hf⟩ := mm_bd hf
          refine mm_callVi (As := [.int (x1 + (x2 * v2))]) (rest := []) C hR hS hl.1 vs_X7_78 eu14 (jj_X7_difference l g A M x0 (x1 + (x2 * v2)) v15 ev15) ⟨rfl, rfl, (Nat.le_of_ble_eq_true rfl), (Nat.le_of_ble_eq_true rfl)⟩ rfl (Nat.le_of_ble_eq_true rfl) ⟨Nat.zero_le _, Nat.zero_le _⟩ rfl dX7_cellOf_102 (fun H locs hR hS => ?_)
          exact mm_ire C hR hS hr ((Option.some.inj hf)) rfl dX7_cellOf_105
        · have hf := mm_if1 hc hf
          refine lv_bipush (v := -4) hx hb dX7_cellOf_94 (by decide) ?_
          refine lv_goto (tgt := 105) hx hb dX7_cellOf_96 (by decide) ?_
          exact mm_ire C hR hS hr ((Option.some.inj hf)) rfl dX7_cellOf_105
      · have hf := mm_if0 hk11 hf
        refine lv_tableOut (tgt := 106) hx hb dX7_cellOf_13 (by have qhk3 := lv_neT (a := 0) hk3 rfl; have qhk6 := lv_neT (a := 1) hk6 rfl; have qhk11 := lv_neT (a := 2) hk11 rfl; omega) (by decide) ?_
        refine lv_aload_n hx hb dX7_cellOf_106 rfl (lv_at hl 1 rfl) ?_
        refine lv_iload_n hx hb dX7_cellOf_107 rfl (lv_at hl 2 rfl) ?_
        refine lv_iload_n hx hb dX7_cellOf_108 rfl (lv_at hl 3 rfl) ?_
        obtain ⟨u16, eu16, hf⟩ := mm_bd hf
        obtain ⟨v17, ev17, hf⟩ := mm_bd hf
        refine mm_callVi (As := [.int x1, .int x2]) (rest := []) C hR hS hl.1 vs_X7_49 eu16 (jj_X7_borderOf l g A M x0 x1 x2 v17 ev17) ⟨rfl, rfl, (Nat.le_of_ble_eq_true rfl), (Nat.le_of_ble_eq_true rfl)⟩ rfl (Nat.le_of_ble_eq_true rfl) ⟨Nat.zero_le _, Nat.zero_le _⟩ rfl dX7_cellOf_109 (fun H locs hR hS => ?_)
        refine lv_iconst (v := -1) hx hb dX7_cellOf_112 (by decide) ?_
        refine lv_icmp_ne (tgt := 121) hx hb dX7_cellOf_113 (by decide) (fun hc => ?_) (fun hc => ?_)
        · have hf := mm_if0 hc hf
          refine lv_aload_n hx hb dX7_cellOf_121 rfl (lv_at hl 1 rfl) ?_
          refine lv_iload_n hx hb dX7_cellOf_122 rfl (lv_at hl 2 rfl) ?_
          refine lv_iload_n hx hb dX7_cellOf_123 rfl (lv_at hl 3 rfl) ?_
          obtain ⟨u18, eu18, hf⟩ := mm_bd hf
          obtain ⟨v19, ev19, hf⟩ := mm_bd hf
          refine mm_callVi (As := [.int x1, .int x2]) (rest := []) C hR hS hl.1 vs_X7_49 eu18 (jj_X7_borderOf l g A M x0 x1 x2 v19 ev19) ⟨rfl, rfl, (Nat.le_of_ble_eq_true rfl), (Nat.le_of_ble_eq_true rfl)⟩ rfl (Nat.le_of_ble_eq_true rfl) ⟨Nat.zero_le _, Nat.zero_le _⟩ rfl dX7_cellOf_124 (fun H locs hR hS => ?_)
          exact mm_ire C hR hS hr ((Option.some.inj hf)) rfl dX7_cellOf_127
        · have hf := mm_if1 hc hf
          refine lv_bipush (v := -4) hx hb dX7_cellOf_116 (by decide) ?_
          refine lv_goto (tgt := 127) hx hb dX7_cellOf_118 (by decide) ?_
          exact mm_ire C hR hS hr ((Option.some.inj hf)) rfl dX7_cellOf_127
def ff_X7_cell (M : mm_M) (x0 : Nat) (x1 : Int32) (x2 : Int32) (x3 : Int32) : Option Int32 := Option.bind (mm_ck 7 M x0) fun u1 => Option.bind (ff_X7_isCell M x0 x1 x2) fun v2 => if v2 = (0 : Int32) then (some (-1 : Int32)) else (Option.bind (ff_X7_in M x3 (0 : Int32) (3 : Int32)) fun v3 => if v3 = (0 : Int32) then (some (-1 : Int32)) else (Option.bind (mm_ck 7 M x0) fun u4 => Option.bind (ff_X7_cellOf M x0 x1 x2 x3) fun v5 => some v5))
def rm_X7_cell : Room := { frames := 5, cells := 0, slots := 0, locals := 113 }
set_option maxHeartbeats 4000000 in
set_option maxRecDepth 100000 in
theorem jj_X7_cell (l : Launch) (g : mm_G) (A : Nat → Prop) (M : mm_M) (x0 : Nat) (x1 : Int32) (x2 : Int32) (x3 : Int32) (r : Int32) (hf : ff_X7_cell M x0 x1 x2 x3 = some r) : Met l yX7_cell (mm_ws yX7_cell cX7_cell 4 (Option.some Jvm.ClassFile.FieldType.int)) rm_X7_cell (va_Pc [.ref x0, .int x1, .int x2, .int x3] (mm_B g A M)) (mm_Ti g A r M) 0 0 A := by
  refine mm_met (g := g) (lv := [(0, .ref x0), (1, .int x1), (2, .int x2), (3, .int x3)]) (fun U h => h.2) (by decide +kernel) (Nat.le_of_ble_eq_true rfl) rfl ?_
  intro p e s m args below meth c ls C hr hnm hB hl
  obtain ⟨hR, hK⟩ := hB
  have hx := C.1
  have hb := C.2.1
  suffices hmain : ∀ (H : Heap) (locs : List Loc), mm_R g A M H → va_S A s.heap H locs → W p l e rm_X7_cell s m args below meth c H locs 0 0 (MQ below (mm_Ti g A r M) args s 0 0 A) (F0 m 0 ls []) from hmain _ _ hR va_S.rf
  clear hR
  intro H locs hR hS
  unfold ff_X7_cell at hf
  refine lv_aload_n hx hb dX7_cell_0 rfl (lv_at hl 0 rfl) ?_
  refine lv_iload_n hx hb dX7_cell_1 rfl (lv_at hl 1 rfl) ?_
  refine lv_iload_n hx hb dX7_cell_2 rfl (lv_at hl 2 rfl) ?_
  obtain ⟨u1, eu1, hf⟩ := mm_bd hf
  obtain ⟨v2, ev2, hf⟩ := mm_bd hf
  refine mm_callVi (As := [.int x1, .int x2]) (rest := []) C hR hS hl.1 vs_X7_68 eu1 (jj_X7_isCell l g A M x0 x1 x2 v2 ev2) ⟨rfl, rfl, (Nat.le_of_ble_eq_true rfl), (Nat.le_of_ble_eq_true rfl)⟩ rfl (Nat.le_of_ble_eq_true rfl) ⟨Nat.zero_le _, Nat.zero_le _⟩ rfl dX7_cell_3 (fun H locs hR hS => ?_)
  refine lv_if_eq (tgt := 28) hx hb dX7_cell_6 (by decide) (fun hc => ?_) (fun hc => ?_)
  · have hf := mm_if1 hc hf
    refine lv_iconst (v := -1) hx hb dX7_cell_28 (by decide) ?_
    exact mm_ire C hR hS hr ((Option.some.inj hf)) rfl dX7_cell_29
  · have hf := mm_if0 hc hf
    refine lv_iload_n hx hb dX7_cell_9 rfl (lv_at hl 3 rfl) ?_
    refine lv_iconst (v := 0) hx hb dX7_cell_10 (by decide) ?_
    refine lv_iconst (v := 3) hx hb dX7_cell_11 (by decide) ?_
    obtain ⟨v3, ev3, hf⟩ := mm_bd hf
    refine mm_callSi (As := [.int x3, .int (0 : Int32), .int (3 : Int32)]) (rest := []) C hR hS hl.1 ss_X7_37 (jj_X7_in l g A M x3 (0 : Int32) (3 : Int32) v3 ev3) ⟨rfl, rfl, (Nat.le_of_ble_eq_true rfl), (Nat.le_of_ble_eq_true rfl)⟩ rfl (Nat.le_of_ble_eq_true rfl) ⟨Nat.zero_le _, Nat.zero_le _⟩ rfl dX7_cell_12 (fun H locs hR hS => ?_)
    refine lv_if_eq (tgt := 28) hx hb dX7_cell_15 (by decide) (fun hc => ?_) (fun hc => ?_)
    · have hf := mm_if1 hc hf
      refine lv_iconst (v := -1) hx hb dX7_cell_28 (by decide) ?_
      exact mm_ire C hR hS hr ((Option.some.inj hf)) rfl dX7_cell_29
    · have hf := mm_if0 hc hf
      refine lv_aload_n hx hb dX7_cell_18 rfl (lv_at hl 0 rfl) ?_
      refine lv_iload_n hx hb dX7_cell_19 rfl (lv_at hl 1 rfl) ?_
      refine lv_iload_n hx hb dX7_cell_20 rfl (lv_at hl 2 rfl) ?_
      refine lv_iload_n hx hb dX7_cell_21 rfl (lv_at hl 3 rfl) ?_
      obtain ⟨u4, eu4, hf⟩ := mm_bd hf
      obtain ⟨v5, ev5, hf⟩ := mm_bd hf
      refine mm_callVi (As := [.int x1, .int x2, .int x3]) (rest := []) C hR hS hl.1 vs_X7_81 eu4 (jj_X7_cellOf l g A M x0 x1 x2 x3 v5 ev5) ⟨rfl, rfl, (Nat.le_of_ble_eq_true rfl), (Nat.le_of_ble_eq_true rfl)⟩ rfl (Nat.le_of_ble_eq_true rfl) ⟨Nat.zero_le _, Nat.zero_le _⟩ rfl dX7_cell_22 (fun H locs hR hS => ?_)
      refine lv_goto (tgt := 29) hx hb dX7_cell_25 (by decide) ?_
      exact mm_ire C hR hS hr ((Option.some.inj hf)) rfl dX7_cell_29
def ff_X7_differences_j62 (M : mm_M) (x0 : Nat) (x1 : Int32) (x2 : Int32) (x3 : Int32) (x4 : Int32) : Option ((Int32 × Int32 × Int32) ⊕ (Int32 × Int32 × Int32)) := some (.inl (x2, x3, (x4 + (1 : Int32))))
def ff_X7_differences_j61 (M : mm_M) (x0 : Nat) (x1 : Int32) (x2 : Int32) (x4 : Int32) (y0 : Int32) : Option ((Int32 × Int32 × Int32) ⊕ (Int32 × Int32 × Int32)) := ff_X7_differences_j62 M x0 x1 x2 y0 x4
def ff_X7_differences_l8 (M : mm_M) (x0 : Nat) (x1 : Int32) (x2 : Int32) (x3 : Int32) (x4 : Int32) : Option ((Int32 × Int32 × Int32) ⊕ (Int32 × Int32 × Int32)) := Option.bind (mm_ck 7 M x0) fun u1 => Option.bind (ff_X7_cells M x0) fun v2 => if v2 ≤ x4 then (some (.inr (x2, x3, x4))) else (Option.bind (mm_gR 7 M x0 0) fun v3 => Option.bind (mm_aI 0 M v3 ((164 : Int32) + x4)) fun v4 => if v4 = (-1 : Int32) then (ff_X7_differences_j62 M x0 x1 x2 x3 x4) else (Option.bind (mm_ck 7 M x0) fun u5 => Option.bind (ff_X7_difference M x0 x4) fun v6 => Option.bind (mm_ck 7 M x0) fun u7 => Option.bind (ff_X7_difference M x0 x4) fun v8 => if v8 ≤ x3 then (ff_X7_differences_j61 M x0 x1 (x2 + v6) x4 x3) else (Option.bind (mm_ck 7 M x0) fun u9 => Option.bind (ff_X7_difference M x0 x4) fun v10 => ff_X7_differences_j61 M x0 x1 (x2 + v6) x4 v10)))
def ff_X7_differences (M : mm_M) (x0 : Nat) (x1 : Int32) : Option Int32 := Option.bind (mm_it (mm_u3 (ff_X7_differences_l8 M x0 x1)) mm_fu ((0 : Int32), (-4 : Int32), (0 : Int32))) fun e11 => mm_u3 (fun x2_12 x3_13 x4_14 => if x1 = (0 : Int32) then (some x2_12) else (some x3_13)) e11
def rm_X7_differences : Room := { frames := 4, cells := 0, slots := 0, locals := 89 }
set_option maxHeartbeats 4000000 in
set_option maxRecDepth 100000 in
theorem jj_X7_differences (l : Launch) (g : mm_G) (A : Nat → Prop) (M : mm_M) (x0 : Nat) (x1 : Int32) (r : Int32) (hf : ff_X7_differences M x0 x1 = some r) : Met l yX7_differences (mm_ws yX7_differences cX7_differences 5 (Option.some Jvm.ClassFile.FieldType.int)) rm_X7_differences (va_Pc [.ref x0, .int x1] (mm_B g A M)) (mm_Ti g A r M) 0 0 A := by
  refine mm_met (g := g) (lv := [(0, .ref x0), (1, .int x1)]) (fun U h => h.2) (by decide +kernel) (Nat.le_of_ble_eq_true rfl) rfl ?_
  intro p e s m args below meth c ls C hr hnm hB hl
  obtain ⟨hR, hK⟩ := hB
  have hx := C.1
  have hb := C.2.1
  suffices hmain : ∀ (H : Heap) (locs : List Loc), mm_R g A M H → va_S A s.heap H locs → W p l e rm_X7_differences s m args below meth c H locs 0 0 (MQ below (mm_Ti g A r M) args s 0 0 A) (F0 m 0 ls []) from hmain _ _ hR va_S.rf
  clear hR
  intro H locs hR hS
  have L8 : ∀ (x0 : Nat) (x1 : Int32) (e1 : Int32 × Int32 × Int32) (hX : ∀ (x2 : Int32) (x3 : Int32) (x4 : Int32), e1 = (x2, x3, x4) → ∀ (H : Heap) (locs : List Loc) (ls : Array Slot), mm_R g A M H → va_S A s.heap H locs → lv_has ls 5 [(1, .int x1), (2, .int x2), (3, .int x3)] → W p l e rm_X7_differences s m args below meth c H locs 0 0 (MQ below (mm_Ti g A r M) args s 0 0 A) (F0 m 68 ls [])) (n : Nat) (x2 : Int32) (x3 : Int32) (x4 : Int32), mm_it (mm_u3 (ff_X7_differences_l8 M x0 x1)) n (x2, x3, x4) = some e1 → ∀ (H : Heap) (locs : List Loc) (ls : Array Slot), mm_R g A M H → va_S A s.heap H locs → lv_has ls 5 [(0, .ref x0), (1, .int x1), (2, .int x2), (3, .int x3), (4, .int x4)] → W p l e rm_X7_differences s m args below meth c H locs 0 0 (MQ below (mm_Ti g A r M) args s 0 0 A) (F0 m 8 ls []) := by
    intro x0 x1 e1 hX n x2 x3 x4 hit
    refine mm_itW (Hd := fun st => ∀ (H : Heap) (locs : List Loc) (ls : Array Slot), mm_R g A M H → va_S A s.heap H locs → lv_has ls 5 [(0, .ref x0), (1, .int x1), (2, .int st.1), (3, .int st.2.1), (4, .int st.2.2)] → W p l e rm_X7_differences s m args below meth c H locs 0 0 (MQ below (mm_Ti g A r M) args s 0 0 A) (F0 m 8 ls [])) (fun st y hf hin hout => ?_) n (x2, x3, x4) hit
    obtain ⟨x2, x3, x4⟩ := st
    have hf := mm_u3e hf
    have J62 : ∀ (x2 : Int32) (x3 : Int32) (x4 : Int32) (H : Heap) (locs : List Loc) (ls : Array Slot), mm_R g A M H → va_S A s.heap H locs → lv_has ls 5 [(0, .ref x0), (1, .int x1), (2, .int x2), (3, .int x3), (4, .int x4)] → ff_X7_differences_j62 M x0 x1 x2 x3 x4 = some y → W p l e rm_X7_differences s m args below meth c H locs 0 0 (MQ below (mm_Ti g A r M) args s 0 0 A) (F0 m 62 ls []) := by
      intro x2 x3 x4 H locs ls hR hS hl hf
      unfold ff_X7_differences_j62 at hf
      refine lv_iinc (v := (x4 + (1 : Int32))) (lv' := [(4, .int (x4 + (1 : Int32))), (0, .ref x0), (1, .int x1), (2, .int x2), (3, .int x3)]) hx hb dX7_differences_62 hl (k := 4) rfl rfl (by decide) rfl (fun ls hl => ?_)
      refine lv_goto (tgt := 8) hx hb dX7_differences_65 (by decide) ?_
      exact hin _ (Option.some.inj hf).symm H locs ls hR hS (lv_sub hl [1, 2, 3, 4, 0] rfl)
    have J61 : ∀ (x2 : Int32) (x4 : Int32) (y0 : Int32) (H : Heap) (locs : List Loc) (ls : Array Slot), mm_R g A M H → va_S A s.heap H locs → lv_has ls 5 [(0, .ref x0), (1, .int x1), (2, .int x2), (4, .int x4)] → ff_X7_differences_j61 M x0 x1 x2 x4 y0 = some y → W p l e rm_X7_differences s m args below meth c H locs 0 0 (MQ below (mm_Ti g A r M) args s 0 0 A) (F0 m 61 ls [.int y0]) := by
      intro x2 x4 y0 H locs ls hR hS hl hf
      unfold ff_X7_differences_j61 at hf
      refine lv_istore_n (lv' := [(3, .int y0), (0, .ref x0), (1, .int x1), (2, .int x2), (4, .int x4)]) hx hb dX7_differences_61 rfl hl (by decide) rfl (fun ls hl => ?_)
      exact J62 x2 y0 x4 H locs ls hR hS (lv_sub hl [1, 2, 3, 0, 4] rfl) hf
    intro H locs ls hR hS hl
    unfold ff_X7_differences_l8 at hf
    refine lv_iload hx hb dX7_differences_8 (lv_at hl 4 rfl) ?_
    refine lv_aload_n hx hb dX7_differences_10 rfl (lv_at hl 0 rfl) ?_
    obtain ⟨u1, eu1, hf⟩ := mm_bd hf
    obtain ⟨v2, ev2, hf⟩ := mm_bd hf
    refine mm_callVi (As := []) (rest := [.int x4]) C hR hS hl.1 vs_X7_41 eu1 (jj_X7_cells l g A M x0 v2 ev2) ⟨rfl, rfl, (Nat.le_of_ble_eq_true rfl), (Nat.le_of_ble_eq_true rfl)⟩ rfl (Nat.le_of_ble_eq_true rfl) ⟨Nat.zero_le _, Nat.zero_le _⟩ rfl dX7_differences_11 (fun H locs hR hS => ?_)
    refine lv_icmp_ge (tgt := 68) hx hb dX7_differences_14 (by decide) (fun hc => ?_) (fun hc => ?_)
    · have hf := mm_if1 hc hf
      exact hX _ _ _ (hout _ (Option.some.inj hf).symm).symm H locs ls hR hS (lv_sub hl [1, 2, 3] rfl)
    · have hf := mm_if0 hc hf
      refine lv_aload_n hx hb dX7_differences_17 rfl (lv_at hl 0 rfl) ?_
      obtain ⟨v3, ev3, hf⟩ := mm_bd hf
      refine mm_getR C hR fs_X7_7 ev3 dX7_differences_18 ?_
      refine lv_sipush (v := 164) hx hb dX7_differences_21 (by decide) ?_
      refine lv_iload hx hb dX7_differences_24 (lv_at hl 4 rfl) ?_
      refine lv_iadd hx hb dX7_differences_26 ?_
      obtain ⟨v4, ev4, hf⟩ := mm_bd hf
      refine mm_iald C hR ev4 dX7_differences_27 ?_
      refine lv_iconst (v := -1) hx hb dX7_differences_28 (by decide) ?_
      refine lv_icmp_eq (tgt := 62) hx hb dX7_differences_29 (by decide) (fun hc => ?_) (fun hc => ?_)
      · have hf := mm_if1 hc hf
        exact J62 x2 x3 x4 H locs ls hR hS (lv_sub hl [0, 1, 2, 3, 4] rfl) hf
      · have hf := mm_if0 hc hf
        refine lv_iload_n hx hb dX7_differences_32 rfl (lv_at hl 2 rfl) ?_
        refine lv_aload_n hx hb dX7_differences_33 rfl (lv_at hl 0 rfl) ?_
        refine lv_iload hx hb dX7_differences_34 (lv_at hl 4 rfl) ?_
        obtain ⟨u5, eu5, hf⟩ := mm_bd hf
        obtain ⟨v6, ev6, hf⟩ := mm_bd hf
        refine mm_callVi (As := [.int x4]) (rest := [.int x2]) C hR hS hl.1 vs_X7_78 eu5 (jj_X7_difference l g A M x0 x4 v6 ev6) ⟨rfl, rfl, (Nat.le_of_ble_eq_true rfl), (Nat.le_of_ble_eq_true rfl)⟩ rfl (Nat.le_of_ble_eq_true rfl) ⟨Nat.zero_le _, Nat.zero_le _⟩ rfl dX7_differences_36 (fun H locs hR hS => ?_)
        refine lv_iadd hx hb dX7_differences_39 ?_
        refine lv_istore_n (lv' := [(2, .int (x2 + v6)), (0, .ref x0), (1, .int x1), (3, .int x3), (4, .int x4)]) hx hb dX7_differences_40 rfl hl (by decide) rfl (fun ls hl => ?_)
        refine lv_aload_n hx hb dX7_differences_41 rfl (lv_at hl 1 rfl) ?_
        refine lv_iload hx hb dX7_differences_42 (lv_at hl 4 rfl) ?_
        obtain ⟨u7, eu7, hf⟩ := mm_bd hf
        obtain ⟨v8, ev8, hf⟩ := mm_bd hf
        refine mm_callVi (As := [.int x4]) (rest := []) C hR hS hl.1 vs_X7_78 eu7 (jj_X7_difference l g A M x0 x4 v8 ev8) ⟨rfl, rfl, (Nat.le_of_ble_eq_true rfl), (Nat.le_of_ble_eq_true rfl)⟩ rfl (Nat.le_of_ble_eq_true rfl) ⟨Nat.zero_le _, Nat.zero_le _⟩ rfl dX7_differences_44 (fun H locs hR hS => ?_)
        refine lv_iload_n hx hb dX7_differences_47 rfl (lv_at hl 3 rfl) ?_
        refine lv_icmp_le (tgt := 60) hx hb dX7_differences_48 (by decide) (fun hc => ?_) (fun hc => ?_)
        · have hf := mm_if1 hc hf
          refine lv_iload_n hx hb dX7_differences_60 rfl (lv_at hl 3 rfl) ?_
          exact J61 (x2 + v6) x4 x3 H locs ls hR hS (lv_sub hl [1, 2, 0, 4] rfl) hf
        · have hf := mm_if0 hc hf
          refine lv_aload_n hx hb dX7_differences_51 rfl (lv_at hl 1 rfl) ?_
          refine lv_iload hx hb dX7_differences_52 (lv_at hl 4 rfl) ?_
          obtain ⟨u9, eu9, hf⟩ := mm_bd hf
          obtain ⟨v10, ev10, hf⟩ := mm_bd hf
          refine mm_callVi (As := [.int x4]) (rest := []) C hR hS hl.1 vs_X7_78 eu9 (jj_X7_difference l g A M x0 x4 v10 ev10) ⟨rfl, rfl, (Nat.le_of_ble_eq_true rfl), (Nat.le_of_ble_eq_true rfl)⟩ rfl (Nat.le_of_ble_eq_true rfl) ⟨Nat.zero_le _, Nat.zero_le _⟩ rfl dX7_differences_54 (fun H locs hR hS => ?_)
          refine lv_goto (tgt := 61) hx hb dX7_differences_57 (by decide) ?_
          exact J61 (x2 + v6) x4 v10 H locs ls hR hS (lv_sub hl [1, 2, 0, 4] rfl) hf
  unfold ff_X7_differences at hf
  refine lv_iconst (v := 0) hx hb dX7_differences_0 (by decide) ?_
  refine lv_istore_n (lv' := [(2, .int (0 : Int32)), (0, .ref x0), (1, .int x1)]) hx hb dX7_differences_1 rfl hl (by decide) rfl (fun ls hl => ?_)
  refine lv_bipush (v := -4) hx hb dX7_differences_2 (by decide) ?_
  refine lv_istore_n (lv' := [(3, .int (-4 : Int32)), (2, .int (0 : Int32)), (0, .ref x0), (1, .int x1)]) hx hb dX7_differences_4 rfl hl (by decide) rfl (fun ls hl => ?_)
  refine lv_iconst (v := 0) hx hb dX7_differences_5 (by decide) ?_
  refine lv_istore (lv' := [(4, .int (0 : Int32)), (3, .int (-4 : Int32)), (2, .int (0 : Int32)), (0, .ref x0), (1, .int x1)]) hx hb dX7_differences_6 hl (by decide) rfl (fun ls hl => ?_)
  obtain ⟨e11, he11, hf⟩ := mm_bd hf
  refine L8 x0 x1 e11 (fun x2_12 x3_13 x4_14 he => ?_) _ (0 : Int32) (-4 : Int32) (0 : Int32) he11 H locs ls hR hS (lv_sub hl [3, 4, 2, 1, 0] rfl)
  subst he
  intro H locs ls hR hS hl
  have hf := mm_u3e hf
  refine lv_iload_n hx hb dX7_differences_68 rfl (lv_at hl 0 rfl) ?_
  refine lv_if_eq (tgt := 76) hx hb dX7_differences_69 (by decide) (fun hc => ?_) (fun hc => ?_)
  · have hf := mm_if1 hc hf
    refine lv_iload_n hx hb dX7_differences_76 rfl (lv_at hl 1 rfl) ?_
    exact mm_ire C hR hS hr ((Option.some.inj hf)) rfl dX7_differences_77
  · have hf := mm_if0 hc hf
    refine lv_iload_n hx hb dX7_differences_72 rfl (lv_at hl 2 rfl) ?_
    refine lv_goto (tgt := 77) hx hb dX7_differences_73 (by decide) ?_
    exact mm_ire C hR hS hr ((Option.some.inj hf)) rfl dX7_differences_77
def ff_X7_of (M : mm_M) (x0 : Nat) (x1 : Int32) (x2 : Int32) : Option Int32 := Option.bind (mm_gR 7 M x0 0) fun v1 => Option.bind (mm_aI 0 M v1 (((408 : Int32) + ((11 : Int32) * x1)) + x2)) fun v2 => some v2
def rm_X7_of : Room := { frames := 0, cells := 0, slots := 0, locals := 0 }
set_option maxHeartbeats 4000000 in
set_option maxRecDepth 100000 in
theorem jj_X7_of (l : Launch) (g : mm_G) (A : Nat → Prop) (M : mm_M) (x0 : Nat) (x1 : Int32) (x2 : Int32) (r : Int32) (hf : ff_X7_of M x0 x1 x2 = some r) : Met l yX7_of (mm_ws yX7_of cX7_of 3 (Option.some Jvm.ClassFile.FieldType.int)) rm_X7_of (va_Pc [.ref x0, .int x1, .int x2] (mm_B g A M)) (mm_Ti g A r M) 0 0 A := by
  refine mm_met (g := g) (lv := [(0, .ref x0), (1, .int x1), (2, .int x2)]) (fun U h => h.2) (by decide +kernel) (Nat.le_of_ble_eq_true rfl) rfl ?_
  intro p e s m args below meth c ls C hr hnm hB hl
  obtain ⟨hR, hK⟩ := hB
  have hx := C.1
  have hb := C.2.1
  suffices hmain : ∀ (H : Heap) (locs : List Loc), mm_R g A M H → va_S A s.heap H locs → W p l e rm_X7_of s m args below meth c H locs 0 0 (MQ below (mm_Ti g A r M) args s 0 0 A) (F0 m 0 ls []) from hmain _ _ hR va_S.rf
  clear hR
  intro H locs hR hS
  unfold ff_X7_of at hf
  refine lv_aload_n hx hb dX7_of_0 rfl (lv_at hl 0 rfl) ?_
  obtain ⟨v1, ev1, hf⟩ := mm_bd hf
  refine mm_getR C hR fs_X7_7 ev1 dX7_of_1 ?_
  refine lv_sipush (v := 408) hx hb dX7_of_4 (by decide) ?_
  refine lv_bipush (v := 11) hx hb dX7_of_7 (by decide) ?_
  refine lv_iload_n hx hb dX7_of_9 rfl (lv_at hl 1 rfl) ?_
  refine lv_imul hx hb dX7_of_10 ?_
  refine lv_iadd hx hb dX7_of_11 ?_
  refine lv_iload_n hx hb dX7_of_12 rfl (lv_at hl 2 rfl) ?_
  refine lv_iadd hx hb dX7_of_13 ?_
  obtain ⟨v2, ev2, hf⟩ := mm_bd hf
  refine mm_iald C hR ev2 dX7_of_14 ?_
  exact mm_ire C hR hS hr ((Option.some.inj hf)) rfl dX7_of_15
def ff_X7_left (M : mm_M) (x0 : Nat) (x1 : Int32) : Option Int32 := Option.bind (mm_ck 7 M x0) fun u1 => Option.bind (ff_X7_of M x0 x1 (0 : Int32)) fun v2 => Option.bind (mm_ck 7 M x0) fun u3 => Option.bind (ff_X7_of M x0 x1 (2 : Int32)) fun v4 => some (v2 - v4)
def rm_X7_left : Room := { frames := 1, cells := 0, slots := 0, locals := 22 }
set_option maxHeartbeats 4000000 in
set_option maxRecDepth 100000 in
theorem jj_X7_left (l : Launch) (g : mm_G) (A : Nat → Prop) (M : mm_M) (x0 : Nat) (x1 : Int32) (r : Int32) (hf : ff_X7_left M x0 x1 = some r) : Met l yX7_left (mm_ws yX7_left cX7_left 2 (Option.some Jvm.ClassFile.FieldType.int)) rm_X7_left (va_Pc [.ref x0, .int x1] (mm_B g A M)) (mm_Ti g A r M) 0 0 A := by
  refine mm_met (g := g) (lv := [(0, .ref x0), (1, .int x1)]) (fun U h => h.2) (by decide +kernel) (Nat.le_of_ble_eq_true rfl) rfl ?_
  intro p e s m args below meth c ls C hr hnm hB hl
  obtain ⟨hR, hK⟩ := hB
  have hx := C.1
  have hb := C.2.1
  suffices hmain : ∀ (H : Heap) (locs : List Loc), mm_R g A M H → va_S A s.heap H locs → W p l e rm_X7_left s m args below meth c H locs 0 0 (MQ below (mm_Ti g A r M) args s 0 0 A) (F0 m 0 ls []) from hmain _ _ hR va_S.rf
  clear hR
  intro H locs hR hS
  unfold ff_X7_left at hf
  refine lv_aload_n hx hb dX7_left_0 rfl (lv_at hl 0 rfl) ?_
  refine lv_iload_n hx hb dX7_left_1 rfl (lv_at hl 1 rfl) ?_
  refine lv_iconst (v := 0) hx hb dX7_left_2 (by decide) ?_
  obtain ⟨u1, eu1, hf⟩ := mm_bd hf
  obtain ⟨v2, ev2, hf⟩ := mm_bd hf
  refine mm_callVi (As := [.int x1, .int (0 : Int32)]) (rest := []) C hR hS hl.1 vs_X7_85 eu1 (jj_X7_of l g A M x0 x1 (0 : Int32) v2 ev2) ⟨rfl, rfl, (Nat.le_of_ble_eq_true rfl), (Nat.le_of_ble_eq_true rfl)⟩ rfl (Nat.le_of_ble_eq_true rfl) ⟨Nat.zero_le _, Nat.zero_le _⟩ rfl dX7_left_3 (fun H locs hR hS => ?_)
  refine lv_aload_n hx hb dX7_left_6 rfl (lv_at hl 0 rfl) ?_
  refine lv_iload_n hx hb dX7_left_7 rfl (lv_at hl 1 rfl) ?_
  refine lv_iconst (v := 2) hx hb dX7_left_8 (by decide) ?_
  obtain ⟨u3, eu3, hf⟩ := mm_bd hf
  obtain ⟨v4, ev4, hf⟩ := mm_bd hf
  refine mm_callVi (As := [.int x1, .int (2 : Int32)]) (rest := [.int v2]) C hR hS hl.1 vs_X7_85 eu3 (jj_X7_of l g A M x0 x1 (2 : Int32) v4 ev4) ⟨rfl, rfl, (Nat.le_of_ble_eq_true rfl), (Nat.le_of_ble_eq_true rfl)⟩ rfl (Nat.le_of_ble_eq_true rfl) ⟨Nat.zero_le _, Nat.zero_le _⟩ rfl dX7_left_9 (fun H locs hR hS => ?_)
  refine lv_isub hx hb dX7_left_12 ?_
  exact mm_ire C hR hS hr ((Option.some.inj hf)) rfl dX7_left_13
def ff_X7_account_l7 (M : mm_M) (x0 : Nat) (x1 : Int32) (x2 : Int32) (x3 : Int32) (x4 : Int32) : Option ((Int32 × Int32 × Int32) ⊕ (Int32 × Int32 × Int32)) := Option.bind (mm_gR 7 M x0 0) fun v1 => Option.bind (mm_aI 0 M v1 (6 : Int32)) fun v2 => if v2 ≤ x4 then (some (.inr (x2, x3, x4))) else (Option.bind (mm_ck 7 M x0) fun u3 => Option.bind (ff_X7_of M x0 x4 (0 : Int32)) fun v4 => Option.bind (mm_ck 7 M x0) fun u5 => Option.bind (ff_X7_left M x0 x4) fun v6 => some (.inl ((x2 + v4), (x3 + v6), (x4 + (1 : Int32)))))
def ff_X7_account (M : mm_M) (x0 : Nat) (x1 : Int32) : Option Int32 := Option.bind (mm_it (mm_u3 (ff_X7_account_l7 M x0 x1)) mm_fu ((0 : Int32), (0 : Int32), (0 : Int32))) fun e7 => mm_u3 (fun x2_8 x3_9 x4_10 => if x1 = (0 : Int32) then (some x2_8) else (if x1 = (1 : Int32) then (some x3_9) else (if x1 = (2 : Int32) then (Option.bind (mm_gR 7 M x0 0) fun v14 => Option.bind (mm_aI 0 M v14 (2 : Int32)) fun v15 => Option.bind (mm_ck 7 M x0) fun u16 => Option.bind (ff_X7_atHand M x0) fun v17 => some (v15 * v17)) else (if x1 = (3 : Int32) then (Option.bind (mm_gR 7 M x0 0) fun v19 => Option.bind (mm_aI 0 M v19 (2 : Int32)) fun v20 => Option.bind (mm_ck 7 M x0) fun u21 => Option.bind (ff_X7_laidCells M x0) fun v22 => some (v20 * v22)) else (Option.bind (mm_gR 7 M x0 0) fun v23 => Option.bind (mm_aI 0 M v23 (((9 : Int32) + x1) - (4 : Int32))) fun v24 => some v24))))) e7
def rm_X7_account : Room := { frames := 2, cells := 0, slots := 0, locals := 43 }
set_option maxHeartbeats 4000000 in
set_option maxRecDepth 100000 in
theorem jj_X7_account (l : Launch) (g : mm_G) (A : Nat → Prop) (M : mm_M) (x0 : Nat) (x1 : Int32) (r : Int32) (hf : ff_X7_account M x0 x1 = some r) : Met l yX7_account (mm_ws yX7_account cX7_account 5 (Option.some Jvm.ClassFile.FieldType.int)) rm_X7_account (va_Pc [.ref x0, .int x1] (mm_B g A M)) (mm_Ti g A r M) 0 0 A := by
  refine mm_met (g := g) (lv := [(0, .ref x0), (1, .int x1)]) (fun U h => h.2) (by decide +kernel) (Nat.le_of_ble_eq_true rfl) rfl ?_
  intro p e s m args below meth c ls C hr hnm hB hl
  obtain ⟨hR, hK⟩ := hB
  have hx := C.1
  have hb := C.2.1
  suffices hmain : ∀ (H : Heap) (locs : List Loc), mm_R g A M H → va_S A s.heap H locs → W p l e rm_X7_account s m args below meth c H locs 0 0 (MQ below (mm_Ti g A r M) args s 0 0 A) (F0 m 0 ls []) from hmain _ _ hR va_S.rf
  clear hR
  intro H locs hR hS
  have L7 : ∀ (x0 : Nat) (x1 : Int32) (e1 : Int32 × Int32 × Int32) (hX : ∀ (x2 : Int32) (x3 : Int32) (x4 : Int32), e1 = (x2, x3, x4) → ∀ (H : Heap) (locs : List Loc) (ls : Array Slot), mm_R g A M H → va_S A s.heap H locs → lv_has ls 5 [(0, .ref x0), (1, .int x1), (2, .int x2), (3, .int x3)] → W p l e rm_X7_account s m args below meth c H locs 0 0 (MQ below (mm_Ti g A r M) args s 0 0 A) (F0 m 44 ls [])) (n : Nat) (x2 : Int32) (x3 : Int32) (x4 : Int32), mm_it (mm_u3 (ff_X7_account_l7 M x0 x1)) n (x2, x3, x4) = some e1 → ∀ (H : Heap) (locs : List Loc) (ls : Array Slot), mm_R g A M H → va_S A s.heap H locs → lv_has ls 5 [(0, .ref x0), (1, .int x1), (2, .int x2), (3, .int x3), (4, .int x4)] → W p l e rm_X7_account s m args below meth c H locs 0 0 (MQ below (mm_Ti g A r M) args s 0 0 A) (F0 m 7 ls []) := by
    intro x0 x1 e1 hX n x2 x3 x4 hit
    refine mm_itW (Hd := fun st => ∀ (H : Heap) (locs : List Loc) (ls : Array Slot), mm_R g A M H → va_S A s.heap H locs → lv_has ls 5 [(0, .ref x0), (1, .int x1), (2, .int st.1), (3, .int st.2.1), (4, .int st.2.2)] → W p l e rm_X7_account s m args below meth c H locs 0 0 (MQ below (mm_Ti g A r M) args s 0 0 A) (F0 m 7 ls [])) (fun st y hf hin hout => ?_) n (x2, x3, x4) hit
    obtain ⟨x2, x3, x4⟩ := st
    have hf := mm_u3e hf
    intro H locs ls hR hS hl
    unfold ff_X7_account_l7 at hf
    refine lv_iload hx hb dX7_account_7 (lv_at hl 4 rfl) ?_
    refine lv_aload_n hx hb dX7_account_9 rfl (lv_at hl 0 rfl) ?_
    obtain ⟨v1, ev1, hf⟩ := mm_bd hf
    refine mm_getR C hR fs_X7_7 ev1 dX7_account_10 ?_
    refine lv_bipush (v := 6) hx hb dX7_account_13 (by decide) ?_
    obtain ⟨v2, ev2, hf⟩ := mm_bd hf
    refine mm_iald C hR ev2 dX7_account_15 ?_
    refine lv_icmp_ge (tgt := 44) hx hb dX7_account_16 (by decide) (fun hc => ?_) (fun hc => ?_)
    · have hf := mm_if1 hc hf
      exact hX _ _ _ (hout _ (Option.some.inj hf).symm).symm H locs ls hR hS (lv_sub hl [0, 1, 2, 3] rfl)
    · have hf := mm_if0 hc hf
      refine lv_iload_n hx hb dX7_account_19 rfl (lv_at hl 2 rfl) ?_
      refine lv_aload_n hx hb dX7_account_20 rfl (lv_at hl 0 rfl) ?_
      refine lv_iload hx hb dX7_account_21 (lv_at hl 4 rfl) ?_
      refine lv_iconst (v := 0) hx hb dX7_account_23 (by decide) ?_
      obtain ⟨u3, eu3, hf⟩ := mm_bd hf
      obtain ⟨v4, ev4, hf⟩ := mm_bd hf
      refine mm_callVi (As := [.int x4, .int (0 : Int32)]) (rest := [.int x2]) C hR hS hl.1 vs_X7_85 eu3 (jj_X7_of l g A M x0 x4 (0 : Int32) v4 ev4) ⟨rfl, rfl, (Nat.le_of_ble_eq_true rfl), (Nat.le_of_ble_eq_true rfl)⟩ rfl (Nat.le_of_ble_eq_true rfl) ⟨Nat.zero_le _, Nat.zero_le _⟩ rfl dX7_account_24 (fun H locs hR hS => ?_)
      refine lv_iadd hx hb dX7_account_27 ?_
      refine lv_istore_n (lv' := [(2, .int (x2 + v4)), (0, .ref x0), (1, .int x1), (3, .int x3), (4, .int x4)]) hx hb dX7_account_28 rfl hl (by decide) rfl (fun ls hl => ?_)
      refine lv_iload_n hx hb dX7_account_29 rfl (lv_at hl 3 rfl) ?_
      refine lv_aload_n hx hb dX7_account_30 rfl (lv_at hl 1 rfl) ?_
      refine lv_iload hx hb dX7_account_31 (lv_at hl 4 rfl) ?_
      obtain ⟨u5, eu5, hf⟩ := mm_bd hf
      obtain ⟨v6, ev6, hf⟩ := mm_bd hf
      refine mm_callVi (As := [.int x4]) (rest := [.int x3]) C hR hS hl.1 vs_X7_88 eu5 (jj_X7_left l g A M x0 x4 v6 ev6) ⟨rfl, rfl, (Nat.le_of_ble_eq_true rfl), (Nat.le_of_ble_eq_true rfl)⟩ rfl (Nat.le_of_ble_eq_true rfl) ⟨Nat.zero_le _, Nat.zero_le _⟩ rfl dX7_account_33 (fun H locs hR hS => ?_)
      refine lv_iadd hx hb dX7_account_36 ?_
      refine lv_istore_n (lv' := [(3, .int (x3 + v6)), (2, .int (x2 + v4)), (0, .ref x0), (1, .int x1), (4, .int x4)]) hx hb dX7_account_37 rfl hl (by decide) rfl (fun ls hl => ?_)
      refine lv_iinc (v := (x4 + (1 : Int32))) (lv' := [(4, .int (x4 + (1 : Int32))), (3, .int (x3 + v6)), (2, .int (x2 + v4)), (0, .ref x0), (1, .int x1)]) hx hb dX7_account_38 hl (k := 4) rfl rfl (by decide) rfl (fun ls hl => ?_)
      refine lv_goto (tgt := 7) hx hb dX7_account_41 (by decide) ?_
      exact hin _ (Option.some.inj hf).symm H locs ls hR hS (lv_sub hl [3, 4, 2, 1, 0] rfl)
  unfold ff_X7_account at hf
  refine lv_iconst (v := 0) hx hb dX7_account_0 (by decide) ?_
  refine lv_istore_n (lv' := [(2, .int (0 : Int32)), (0, .ref x0), (1, .int x1)]) hx hb dX7_account_1 rfl hl (by decide) rfl (fun ls hl => ?_)
  refine lv_iconst (v := 0) hx hb dX7_account_2 (by decide) ?_
  refine lv_istore_n (lv' := [(3, .int (0 : Int32)), (2, .int (0 : Int32)), (0, .ref x0), (1, .int x1)]) hx hb dX7_account_3 rfl hl (by decide) rfl (fun ls hl => ?_)
  refine lv_iconst (v := 0) hx hb dX7_account_4 (by decide) ?_
  refine lv_istore (lv' := [(4, .int (0 : Int32)), (3, .int (0 : Int32)), (2, .int (0 : Int32)), (0, .ref x0), (1, .int x1)]) hx hb dX7_account_5 hl (by decide) rfl (fun ls hl => ?_)
  obtain ⟨e7, he7, hf⟩ := mm_bd hf
  refine L7 x0 x1 e7 (fun x2_8 x3_9 x4_10 he => ?_) _ (0 : Int32) (0 : Int32) (0 : Int32) he7 H locs ls hR hS (lv_sub hl [3, 4, 2, 1, 0] rfl)
  subst he
  intro H locs ls hR hS hl
  have hf := mm_u3e hf
  refine lv_iload_n hx hb dX7_account_44 rfl (lv_at hl 1 rfl) ?_
  by_cases hk11 : x1 = (0 : Int32)
  · have hf := mm_if1 hk11 hf
    refine lv_tableIn (off := 31) (tgt := 76) hx hb dX7_account_45 (by rw [hk11]; decide) (by rw [hk11]; decide) (by rw [hk11]; decide +kernel) (by decide) ?_
    refine lv_iload_n hx hb dX7_account_76 rfl (lv_at hl 2 rfl) ?_
    exact mm_ire C hR hS hr ((Option.some.inj hf)) rfl dX7_account_77
  · have hf := mm_if0 hk11 hf
    by_cases hk12 : x1 = (1 : Int32)
    · have hf := mm_if1 hk12 hf
      refine lv_tableIn (off := 33) (tgt := 78) hx hb dX7_account_45 (by rw [hk12]; decide) (by rw [hk12]; decide) (by rw [hk12]; decide +kernel) (by decide) ?_
      refine lv_iload_n hx hb dX7_account_78 rfl (lv_at hl 3 rfl) ?_
      exact mm_ire C hR hS hr ((Option.some.inj hf)) rfl dX7_account_79
    · have hf := mm_if0 hk12 hf
      by_cases hk13 : x1 = (2 : Int32)
      · have hf := mm_if1 hk13 hf
        refine lv_tableIn (off := 35) (tgt := 80) hx hb dX7_account_45 (by rw [hk13]; decide) (by rw [hk13]; decide) (by rw [hk13]; decide +kernel) (by decide) ?_
        refine lv_aload_n hx hb dX7_account_80 rfl (lv_at hl 0 rfl) ?_
        obtain ⟨v14, ev14, hf⟩ := mm_bd hf
        refine mm_getR C hR fs_X7_7 ev14 dX7_account_81 ?_
        refine lv_iconst (v := 2) hx hb dX7_account_84 (by decide) ?_
        obtain ⟨v15, ev15, hf⟩ := mm_bd hf
        refine mm_iald C hR ev15 dX7_account_85 ?_
        refine lv_aload_n hx hb dX7_account_86 rfl (lv_at hl 0 rfl) ?_
        obtain ⟨u16, eu16, hf⟩ := mm_bd hf
        obtain ⟨v17, ev17, hf⟩ := mm_bd hf
        refine mm_callVi (As := []) (rest := [.int v15]) C hR hS hl.1 vs_X7_65 eu16 (jj_X7_atHand l g A M x0 v17 ev17) ⟨rfl, rfl, (Nat.le_of_ble_eq_true rfl), (Nat.le_of_ble_eq_true rfl)⟩ rfl (Nat.le_of_ble_eq_true rfl) ⟨Nat.zero_le _, Nat.zero_le _⟩ rfl dX7_account_87 (fun H locs hR hS => ?_)
        refine lv_imul hx hb dX7_account_90 ?_
        exact mm_ire C hR hS hr ((Option.some.inj hf)) rfl dX7_account_91
      · have hf := mm_if0 hk13 hf
        by_cases hk18 : x1 = (3 : Int32)
        · have hf := mm_if1 hk18 hf
          refine lv_tableIn (off := 47) (tgt := 92) hx hb dX7_account_45 (by rw [hk18]; decide) (by rw [hk18]; decide) (by rw [hk18]; decide +kernel) (by decide) ?_
          refine lv_aload_n hx hb dX7_account_92 rfl (lv_at hl 0 rfl) ?_
          obtain ⟨v19, ev19, hf⟩ := mm_bd hf
          refine mm_getR C hR fs_X7_7 ev19 dX7_account_93 ?_
          refine lv_iconst (v := 2) hx hb dX7_account_96 (by decide) ?_
          obtain ⟨v20, ev20, hf⟩ := mm_bd hf
          refine mm_iald C hR ev20 dX7_account_97 ?_
          refine lv_aload_n hx hb dX7_account_98 rfl (lv_at hl 0 rfl) ?_
          obtain ⟨u21, eu21, hf⟩ := mm_bd hf
          obtain ⟨v22, ev22, hf⟩ := mm_bd hf
          refine mm_callVi (As := []) (rest := [.int v20]) C hR hS hl.1 vs_X7_59 eu21 (jj_X7_laidCells l g A M x0 v22 ev22) ⟨rfl, rfl, (Nat.le_of_ble_eq_true rfl), (Nat.le_of_ble_eq_true rfl)⟩ rfl (Nat.le_of_ble_eq_true rfl) ⟨Nat.zero_le _, Nat.zero_le _⟩ rfl dX7_account_99 (fun H locs hR hS => ?_)
          refine lv_imul hx hb dX7_account_102 ?_
          exact mm_ire C hR hS hr ((Option.some.inj hf)) rfl dX7_account_103
        · have hf := mm_if0 hk18 hf
          refine lv_tableOut (tgt := 104) hx hb dX7_account_45 (by have qhk11 := lv_neT (a := 0) hk11 rfl; have qhk12 := lv_neT (a := 1) hk12 rfl; have qhk13 := lv_neT (a := 2) hk13 rfl; have qhk18 := lv_neT (a := 3) hk18 rfl; omega) (by decide) ?_
          refine lv_aload_n hx hb dX7_account_104 rfl (lv_at hl 0 rfl) ?_
          obtain ⟨v23, ev23, hf⟩ := mm_bd hf
          refine mm_getR C hR fs_X7_7 ev23 dX7_account_105 ?_
          refine lv_bipush (v := 9) hx hb dX7_account_108 (by decide) ?_
          refine lv_iload_n hx hb dX7_account_110 rfl (lv_at hl 1 rfl) ?_
          refine lv_iadd hx hb dX7_account_111 ?_
          refine lv_iconst (v := 4) hx hb dX7_account_112 (by decide) ?_
          refine lv_isub hx hb dX7_account_113 ?_
          obtain ⟨v24, ev24, hf⟩ := mm_bd hf
          refine mm_iald C hR ev24 dX7_account_114 ?_
          exact mm_ire C hR hS hr ((Option.some.inj hf)) rfl dX7_account_115
def ff_X7_count_j84 (M : mm_M) (x0 : Nat) (x1 : Int32) : Option (Int32) := Option.bind (mm_gR 7 M x0 0) fun v2 => Option.bind (mm_aI 0 M v2 x1) fun v3 => some v3
def ff_X7_count_j96 (M : mm_M) (x0 : Nat) (x1 : Int32) : Option (Int32) := Option.bind (mm_gR 7 M x0 0) fun v9 => Option.bind (mm_aI 0 M v9 (x1 + (1 : Int32))) fun v10 => some v10
def ff_X7_count_j135 (M : mm_M) (y0 : Int32) (y1 : Nat) : Option (Int32) := Option.bind (mm_ck 7 M y1) fun u19 => Option.bind (ff_X7_differences M y1 y0) fun v20 => some v20
def ff_X7_count_j123 (M : mm_M) (x0 : Nat) (x1 : Int32) : Option (Int32) := if x1 = (8 : Int32) then (ff_X7_count_j135 M (1 : Int32) x0) else (ff_X7_count_j135 M (0 : Int32) x0)
def ff_X7_count_j178 (M : mm_M) (x0 : Nat) (x1 : Int32) : Option (Int32) := Option.bind (mm_gR 7 M x0 0) fun v39 => Option.bind (mm_aI 0 M v39 (((2 : Int32) + x1) - (15 : Int32))) fun v40 => some v40
def ff_X7_count (M : mm_M) (x0 : Nat) (x1 : Int32) : Option Int32 := if x1 = (0 : Int32) then (ff_X7_count_j84 M x0 x1) else (if x1 = (1 : Int32) then (ff_X7_count_j84 M x0 x1) else (if x1 = (2 : Int32) then (Option.bind (mm_ck 7 M x0) fun u6 => Option.bind (ff_X7_around M x0) fun v7 => some v7) else (if x1 = (3 : Int32) then (ff_X7_count_j96 M x0 x1) else (if x1 = (4 : Int32) then (ff_X7_count_j96 M x0 x1) else (if x1 = (5 : Int32) then (Option.bind (mm_ck 7 M x0) fun u13 => Option.bind (ff_X7_meets M x0) fun v14 => if v14 = (0 : Int32) then (some (0 : Int32)) else (some (1 : Int32))) else (if x1 = (6 : Int32) then (Option.bind (mm_ck 7 M x0) fun u16 => Option.bind (ff_X7_laidCells M x0) fun v17 => some v17) else (if x1 = (7 : Int32) then (ff_X7_count_j123 M x0 x1) else (if x1 = (8 : Int32) then (ff_X7_count_j123 M x0 x1) else (if x1 = (9 : Int32) then (Option.bind (mm_gR 7 M x0 0) fun v23 => Option.bind (mm_aI 0 M v23 (6 : Int32)) fun v24 => some v24) else (if x1 = (10 : Int32) then (Option.bind (mm_ck 7 M x0) fun u26 => Option.bind (ff_X7_atHand M x0) fun v27 => some v27) else (if x1 = (11 : Int32) then (Option.bind (mm_gR 7 M x0 0) fun v29 => Option.bind (mm_aI 0 M v29 (8 : Int32)) fun v30 => some v30) else (if x1 = (12 : Int32) then (Option.bind (mm_gR 7 M x0 0) fun v32 => Option.bind (mm_aI 0 M v32 (7 : Int32)) fun v33 => some v33) else (if x1 = (13 : Int32) then (Option.bind (mm_gI 7 M x0 3) fun v35 => some v35) else (if x1 = (14 : Int32) then (Option.bind (mm_gI 7 M x0 5) fun v37 => some v37) else (if x1 = (15 : Int32) then (ff_X7_count_j178 M x0 x1) else (if x1 = (16 : Int32) then (ff_X7_count_j178 M x0 x1) else (Option.bind (ff_X7_in M x1 (20 : Int32) (26 : Int32)) fun v42 => if v42 = (0 : Int32) then (some (-1 : Int32)) else (Option.bind (mm_ck 7 M x0) fun u43 => Option.bind (ff_X7_account M x0 (x1 - (20 : Int32))) fun v44 => some v44))))))))))))))))))
def rm_X7_count : Room := { frames := 5, cells := 0, slots := 0, locals := 113 }
set_option maxHeartbeats 4000000 in
set_option maxRecDepth 100000 in
theorem jj_X7_count (l : Launch) (g : mm_G) (A : Nat → Prop) (M : mm_M) (x0 : Nat) (x1 : Int32) (r : Int32) (hf : ff_X7_count M x0 x1 = some r) : Met l yX7_count (mm_ws yX7_count cX7_count 2 (Option.some Jvm.ClassFile.FieldType.int)) rm_X7_count (va_Pc [.ref x0, .int x1] (mm_B g A M)) (mm_Ti g A r M) 0 0 A := by
  refine mm_met (g := g) (lv := [(0, .ref x0), (1, .int x1)]) (fun U h => h.2) (by decide +kernel) (Nat.le_of_ble_eq_true rfl) rfl ?_
  intro p e s m args below meth c ls C hr hnm hB hl
  obtain ⟨hR, hK⟩ := hB
  have hx := C.1
  have hb := C.2.1
  suffices hmain : ∀ (H : Heap) (locs : List Loc), mm_R g A M H → va_S A s.heap H locs → W p l e rm_X7_count s m args below meth c H locs 0 0 (MQ below (mm_Ti g A r M) args s 0 0 A) (F0 m 0 ls []) from hmain _ _ hR va_S.rf
  clear hR
  intro H locs hR hS
  have J178 : ∀ (x0 : Nat) (x1 : Int32) (H : Heap) (locs : List Loc) (ls : Array Slot), mm_R g A M H → va_S A s.heap H locs → lv_has ls 2 [(0, .ref x0), (1, .int x1)] → ff_X7_count_j178 M x0 x1 = some r → W p l e rm_X7_count s m args below meth c H locs 0 0 (MQ below (mm_Ti g A r M) args s 0 0 A) (F0 m 178 ls []) := by
    intro x0 x1 H locs ls hR hS hl hf
    unfold ff_X7_count_j178 at hf
    refine lv_aload_n hx hb dX7_count_178 rfl (lv_at hl 0 rfl) ?_
    obtain ⟨v39, ev39, hf⟩ := mm_bd hf
    refine mm_getR C hR fs_X7_7 ev39 dX7_count_179 ?_
    refine lv_iconst (v := 2) hx hb dX7_count_182 (by decide) ?_
    refine lv_iload_n hx hb dX7_count_183 rfl (lv_at hl 1 rfl) ?_
    refine lv_iadd hx hb dX7_count_184 ?_
    refine lv_bipush (v := 15) hx hb dX7_count_185 (by decide) ?_
    refine lv_isub hx hb dX7_count_187 ?_
    obtain ⟨v40, ev40, hf⟩ := mm_bd hf
    refine mm_iald C hR ev40 dX7_count_188 ?_
    exact mm_ire C hR hS hr ((Option.some.inj hf)) rfl dX7_count_189
  have J135 : ∀ (y0 : Int32) (y1 : Nat) (H : Heap) (locs : List Loc) (ls : Array Slot), mm_R g A M H → va_S A s.heap H locs → lv_has ls 2 [] → ff_X7_count_j135 M y0 y1 = some r → W p l e rm_X7_count s m args below meth c H locs 0 0 (MQ below (mm_Ti g A r M) args s 0 0 A) (F0 m 135 ls [.int y0, .ref y1]) := by
    intro y0 y1 H locs ls hR hS hl hf
    unfold ff_X7_count_j135 at hf
    obtain ⟨u19, eu19, hf⟩ := mm_bd hf
    obtain ⟨v20, ev20, hf⟩ := mm_bd hf
    refine mm_callVi (As := [.int y0]) (rest := []) C hR hS hl.1 vs_X7_95 eu19 (jj_X7_differences l g A M y1 y0 v20 ev20) ⟨rfl, rfl, (Nat.le_of_ble_eq_true rfl), (Nat.le_of_ble_eq_true rfl)⟩ rfl (Nat.le_of_ble_eq_true rfl) ⟨Nat.zero_le _, Nat.zero_le _⟩ rfl dX7_count_135 (fun H locs hR hS => ?_)
    exact mm_ire C hR hS hr ((Option.some.inj hf)) rfl dX7_count_138
  have J123 : ∀ (x0 : Nat) (x1 : Int32) (H : Heap) (locs : List Loc) (ls : Array Slot), mm_R g A M H → va_S A s.heap H locs → lv_has ls 2 [(0, .ref x0), (1, .int x1)] → ff_X7_count_j123 M x0 x1 = some r → W p l e rm_X7_count s m args below meth c H locs 0 0 (MQ below (mm_Ti g A r M) args s 0 0 A) (F0 m 123 ls []) := by
    intro x0 x1 H locs ls hR hS hl hf
    unfold ff_X7_count_j123 at hf
    refine lv_aload_n hx hb dX7_count_123 rfl (lv_at hl 0 rfl) ?_
    refine lv_iload_n hx hb dX7_count_124 rfl (lv_at hl 1 rfl) ?_
    refine lv_bipush (v := 8) hx hb dX7_count_125 (by decide) ?_
    refine lv_icmp_ne (tgt := 134) hx hb dX7_count_127 (by decide) (fun hc => ?_) (fun hc => ?_)
    · have hf := mm_if0 hc hf
      refine lv_iconst (v := 0) hx hb dX7_count_134 (by decide) ?_
      exact J135 (0 : Int32) x0 H locs ls hR hS (lv_sub hl [] rfl) hf
    · have hf := mm_if1 hc hf
      refine lv_iconst (v := 1) hx hb dX7_count_130 (by decide) ?_
      refine lv_goto (tgt := 135) hx hb dX7_count_131 (by decide) ?_
      exact J135 (1 : Int32) x0 H locs ls hR hS (lv_sub hl [] rfl) hf
  have J96 : ∀ (x0 : Nat) (x1 : Int32) (H : Heap) (locs : List Loc) (ls : Array Slot), mm_R g A M H → va_S A s.heap H locs → lv_has ls 2 [(0, .ref x0), (1, .int x1)] → ff_X7_count_j96 M x0 x1 = some r → W p l e rm_X7_count s m args below meth c H locs 0 0 (MQ below (mm_Ti g A r M) args s 0 0 A) (F0 m 96 ls []) := by
    intro x0 x1 H locs ls hR hS hl hf
    unfold ff_X7_count_j96 at hf
    refine lv_aload_n hx hb dX7_count_96 rfl (lv_at hl 0 rfl) ?_
    obtain ⟨v9, ev9, hf⟩ := mm_bd hf
    refine mm_getR C hR fs_X7_7 ev9 dX7_count_97 ?_
    refine lv_iload_n hx hb dX7_count_100 rfl (lv_at hl 1 rfl) ?_
    refine lv_iconst (v := 1) hx hb dX7_count_101 (by decide) ?_
    refine lv_iadd hx hb dX7_count_102 ?_
    obtain ⟨v10, ev10, hf⟩ := mm_bd hf
    refine mm_iald C hR ev10 dX7_count_103 ?_
    exact mm_ire C hR hS hr ((Option.some.inj hf)) rfl dX7_count_104
  have J84 : ∀ (x0 : Nat) (x1 : Int32) (H : Heap) (locs : List Loc) (ls : Array Slot), mm_R g A M H → va_S A s.heap H locs → lv_has ls 2 [(0, .ref x0), (1, .int x1)] → ff_X7_count_j84 M x0 x1 = some r → W p l e rm_X7_count s m args below meth c H locs 0 0 (MQ below (mm_Ti g A r M) args s 0 0 A) (F0 m 84 ls []) := by
    intro x0 x1 H locs ls hR hS hl hf
    unfold ff_X7_count_j84 at hf
    refine lv_aload_n hx hb dX7_count_84 rfl (lv_at hl 0 rfl) ?_
    obtain ⟨v2, ev2, hf⟩ := mm_bd hf
    refine mm_getR C hR fs_X7_7 ev2 dX7_count_85 ?_
    refine lv_iload_n hx hb dX7_count_88 rfl (lv_at hl 1 rfl) ?_
    obtain ⟨v3, ev3, hf⟩ := mm_bd hf
    refine mm_iald C hR ev3 dX7_count_89 ?_
    exact mm_ire C hR hS hr ((Option.some.inj hf)) rfl dX7_count_90
  unfold ff_X7_count at hf
  refine lv_iload_n hx hb dX7_count_0 rfl (lv_at hl 1 rfl) ?_
  by_cases hk1 : x1 = (0 : Int32)
  · have hf := mm_if1 hk1 hf
    refine lv_tableIn (off := 83) (tgt := 84) hx hb dX7_count_1 (by rw [hk1]; decide) (by rw [hk1]; decide) (by rw [hk1]; decide +kernel) (by decide) ?_
    exact J84 x0 x1 H locs ls hR hS (lv_sub hl [0, 1] rfl) hf
  · have hf := mm_if0 hk1 hf
    by_cases hk4 : x1 = (1 : Int32)
    · have hf := mm_if1 hk4 hf
      refine lv_tableIn (off := 83) (tgt := 84) hx hb dX7_count_1 (by rw [hk4]; decide) (by rw [hk4]; decide) (by rw [hk4]; decide +kernel) (by decide) ?_
      exact J84 x0 x1 H locs ls hR hS (lv_sub hl [0, 1] rfl) hf
    · have hf := mm_if0 hk4 hf
      by_cases hk5 : x1 = (2 : Int32)
      · have hf := mm_if1 hk5 hf
        refine lv_tableIn (off := 90) (tgt := 91) hx hb dX7_count_1 (by rw [hk5]; decide) (by rw [hk5]; decide) (by rw [hk5]; decide +kernel) (by decide) ?_
        refine lv_aload_n hx hb dX7_count_91 rfl (lv_at hl 0 rfl) ?_
        obtain ⟨u6, eu6, hf⟩ := mm_bd hf
        obtain ⟨v7, ev7, hf⟩ := mm_bd hf
        refine mm_callVi (As := []) (rest := []) C hR hS hl.1 vs_X7_56 eu6 (jj_X7_around l g A M x0 v7 ev7) ⟨rfl, rfl, (Nat.le_of_ble_eq_true rfl), (Nat.le_of_ble_eq_true rfl)⟩ rfl (Nat.le_of_ble_eq_true rfl) ⟨Nat.zero_le _, Nat.zero_le _⟩ rfl dX7_count_92 (fun H locs hR hS => ?_)
        exact mm_ire C hR hS hr ((Option.some.inj hf)) rfl dX7_count_95
      · have hf := mm_if0 hk5 hf
        by_cases hk8 : x1 = (3 : Int32)
        · have hf := mm_if1 hk8 hf
          refine lv_tableIn (off := 95) (tgt := 96) hx hb dX7_count_1 (by rw [hk8]; decide) (by rw [hk8]; decide) (by rw [hk8]; decide +kernel) (by decide) ?_
          exact J96 x0 x1 H locs ls hR hS (lv_sub hl [0, 1] rfl) hf
        · have hf := mm_if0 hk8 hf
          by_cases hk11 : x1 = (4 : Int32)
          · have hf := mm_if1 hk11 hf
            refine lv_tableIn (off := 95) (tgt := 96) hx hb dX7_count_1 (by rw [hk11]; decide) (by rw [hk11]; decide) (by rw [hk11]; decide +kernel) (by decide) ?_
            exact J96 x0 x1 H locs ls hR hS (lv_sub hl [0, 1] rfl) hf
          · have hf := mm_if0 hk11 hf
            by_cases hk12 : x1 = (5 : Int32)
            · have hf := mm_if1 hk12 hf
              refine lv_tableIn (off := 104) (tgt := 105) hx hb dX7_count_1 (by rw [hk12]; decide) (by rw [hk12]; decide) (by rw [hk12]; decide +kernel) (by decide) ?_
              refine lv_aload_n hx hb dX7_count_105 rfl (lv_at hl 0 rfl) ?_
              obtain ⟨u13, eu13, hf⟩ := mm_bd hf
              obtain ⟨v14, ev14, hf⟩ := mm_bd hf
              refine mm_callVi (As := []) (rest := []) C hR hS hl.1 vs_X7_91 eu13 (jj_X7_meets l g A M x0 v14 ev14) ⟨rfl, rfl, (Nat.le_of_ble_eq_true rfl), (Nat.le_of_ble_eq_true rfl)⟩ rfl (Nat.le_of_ble_eq_true rfl) ⟨Nat.zero_le _, Nat.zero_le _⟩ rfl dX7_count_106 (fun H locs hR hS => ?_)
              refine lv_if_eq (tgt := 116) hx hb dX7_count_109 (by decide) (fun hc => ?_) (fun hc => ?_)
              · have hf := mm_if1 hc hf
                refine lv_iconst (v := 0) hx hb dX7_count_116 (by decide) ?_
                exact mm_ire C hR hS hr ((Option.some.inj hf)) rfl dX7_count_117
              · have hf := mm_if0 hc hf
                refine lv_iconst (v := 1) hx hb dX7_count_112 (by decide) ?_
                refine lv_goto (tgt := 117) hx hb dX7_count_113 (by decide) ?_
                exact mm_ire C hR hS hr ((Option.some.inj hf)) rfl dX7_count_117
            · have hf := mm_if0 hk12 hf
              by_cases hk15 : x1 = (6 : Int32)
              · have hf := mm_if1 hk15 hf
                refine lv_tableIn (off := 117) (tgt := 118) hx hb dX7_count_1 (by rw [hk15]; decide) (by rw [hk15]; decide) (by rw [hk15]; decide +kernel) (by decide) ?_
                refine lv_aload_n hx hb dX7_count_118 rfl (lv_at hl 0 rfl) ?_
                obtain ⟨u16, eu16, hf⟩ := mm_bd hf
                obtain ⟨v17, ev17, hf⟩ := mm_bd hf
                refine mm_callVi (As := []) (rest := []) C hR hS hl.1 vs_X7_59 eu16 (jj_X7_laidCells l g A M x0 v17 ev17) ⟨rfl, rfl, (Nat.le_of_ble_eq_true rfl), (Nat.le_of_ble_eq_true rfl)⟩ rfl (Nat.le_of_ble_eq_true rfl) ⟨Nat.zero_le _, Nat.zero_le _⟩ rfl dX7_count_119 (fun H locs hR hS => ?_)
                exact mm_ire C hR hS hr ((Option.some.inj hf)) rfl dX7_count_122
              · have hf := mm_if0 hk15 hf
                by_cases hk18 : x1 = (7 : Int32)
                · have hf := mm_if1 hk18 hf
                  refine lv_tableIn (off := 122) (tgt := 123) hx hb dX7_count_1 (by rw [hk18]; decide) (by rw [hk18]; decide) (by rw [hk18]; decide +kernel) (by decide) ?_
                  exact J123 x0 x1 H locs ls hR hS (lv_sub hl [0, 1] rfl) hf
                · have hf := mm_if0 hk18 hf
                  by_cases hk21 : x1 = (8 : Int32)
                  · have hf := mm_if1 hk21 hf
                    refine lv_tableIn (off := 122) (tgt := 123) hx hb dX7_count_1 (by rw [hk21]; decide) (by rw [hk21]; decide) (by rw [hk21]; decide +kernel) (by decide) ?_
                    exact J123 x0 x1 H locs ls hR hS (lv_sub hl [0, 1] rfl) hf
                  · have hf := mm_if0 hk21 hf
                    by_cases hk22 : x1 = (9 : Int32)
                    · have hf := mm_if1 hk22 hf
                      refine lv_tableIn (off := 138) (tgt := 139) hx hb dX7_count_1 (by rw [hk22]; decide) (by rw [hk22]; decide) (by rw [hk22]; decide +kernel) (by decide) ?_
                      refine lv_aload_n hx hb dX7_count_139 rfl (lv_at hl 0 rfl) ?_
                      obtain ⟨v23, ev23, hf⟩ := mm_bd hf
                      refine mm_getR C hR fs_X7_7 ev23 dX7_count_140 ?_
                      refine lv_bipush (v := 6) hx hb dX7_count_143 (by decide) ?_
                      obtain ⟨v24, ev24, hf⟩ := mm_bd hf
                      refine mm_iald C hR ev24 dX7_count_145 ?_
                      exact mm_ire C hR hS hr ((Option.some.inj hf)) rfl dX7_count_146
                    · have hf := mm_if0 hk22 hf
                      by_cases hk25 : x1 = (10 : Int32)
                      · have hf := mm_if1 hk25 hf
                        refine lv_tableIn (off := 146) (tgt := 147) hx hb dX7_count_1 (by rw [hk25]; decide) (by rw [hk25]; decide) (by rw [hk25]; decide +kernel) (by decide) ?_
                        refine lv_aload_n hx hb dX7_count_147 rfl (lv_at hl 0 rfl) ?_
                        obtain ⟨u26, eu26, hf⟩ := mm_bd hf
                        obtain ⟨v27, ev27, hf⟩ := mm_bd hf
                        refine mm_callVi (As := []) (rest := []) C hR hS hl.1 vs_X7_65 eu26 (jj_X7_atHand l g A M x0 v27 ev27) ⟨rfl, rfl, (Nat.le_of_ble_eq_true rfl), (Nat.le_of_ble_eq_true rfl)⟩ rfl (Nat.le_of_ble_eq_true rfl) ⟨Nat.zero_le _, Nat.zero_le _⟩ rfl dX7_count_148 (fun H locs hR hS => ?_)
                        exact mm_ire C hR hS hr ((Option.some.inj hf)) rfl dX7_count_151
                      · have hf := mm_if0 hk25 hf
                        by_cases hk28 : x1 = (11 : Int32)
                        · have hf := mm_if1 hk28 hf
                          refine lv_tableIn (off := 151) (tgt := 152) hx hb dX7_count_1 (by rw [hk28]; decide) (by rw [hk28]; decide) (by rw [hk28]; decide +kernel) (by decide) ?_
                          refine lv_aload_n hx hb dX7_count_152 rfl (lv_at hl 0 rfl) ?_
                          obtain ⟨v29, ev29, hf⟩ := mm_bd hf
                          refine mm_getR C hR fs_X7_7 ev29 dX7_count_153 ?_
                          refine lv_bipush (v := 8) hx hb dX7_count_156 (by decide) ?_
                          obtain ⟨v30, ev30, hf⟩ := mm_bd hf
                          refine mm_iald C hR ev30 dX7_count_158 ?_
                          exact mm_ire C hR hS hr ((Option.some.inj hf)) rfl dX7_count_159
                        · have hf := mm_if0 hk28 hf
                          by_cases hk31 : x1 = (12 : Int32)
                          · have hf := mm_if1 hk31 hf
                            refine lv_tableIn (off := 159) (tgt := 160) hx hb dX7_count_1 (by rw [hk31]; decide) (by rw [hk31]; decide) (by rw [hk31]; decide +kernel) (by decide) ?_
                            refine lv_aload_n hx hb dX7_count_160 rfl (lv_at hl 0 rfl) ?_
                            obtain ⟨v32, ev32, hf⟩ := mm_bd hf
                            refine mm_getR C hR fs_X7_7 ev32 dX7_count_161 ?_
                            refine lv_bipush (v := 7) hx hb dX7_count_164 (by decide) ?_
                            obtain ⟨v33, ev33, hf⟩ := mm_bd hf
                            refine mm_iald C hR ev33 dX7_count_166 ?_
                            exact mm_ire C hR hS hr ((Option.some.inj hf)) rfl dX7_count_167
                          · have hf := mm_if0 hk31 hf
                            by_cases hk34 : x1 = (13 : Int32)
                            · have hf := mm_if1 hk34 hf
                              refine lv_tableIn (off := 167) (tgt := 168) hx hb dX7_count_1 (by rw [hk34]; decide) (by rw [hk34]; decide) (by rw [hk34]; decide +kernel) (by decide) ?_
                              refine lv_aload_n hx hb dX7_count_168 rfl (lv_at hl 0 rfl) ?_
                              obtain ⟨v35, ev35, hf⟩ := mm_bd hf
                              refine mm_getI C hR fs_X7_29 ev35 dX7_count_169 ?_
                              exact mm_ire C hR hS hr ((Option.some.inj hf)) rfl dX7_count_172
                            · have hf := mm_if0 hk34 hf
                              by_cases hk36 : x1 = (14 : Int32)
                              · have hf := mm_if1 hk36 hf
                                refine lv_tableIn (off := 172) (tgt := 173) hx hb dX7_count_1 (by rw [hk36]; decide) (by rw [hk36]; decide) (by rw [hk36]; decide +kernel) (by decide) ?_
                                refine lv_aload_n hx hb dX7_count_173 rfl (lv_at hl 0 rfl) ?_
                                obtain ⟨v37, ev37, hf⟩ := mm_bd hf
                                refine mm_getI C hR fs_X7_99 ev37 dX7_count_174 ?_
                                exact mm_ire C hR hS hr ((Option.some.inj hf)) rfl dX7_count_177
                              · have hf := mm_if0 hk36 hf
                                by_cases hk38 : x1 = (15 : Int32)
                                · have hf := mm_if1 hk38 hf
                                  refine lv_tableIn (off := 177) (tgt := 178) hx hb dX7_count_1 (by rw [hk38]; decide) (by rw [hk38]; decide) (by rw [hk38]; decide +kernel) (by decide) ?_
                                  exact J178 x0 x1 H locs ls hR hS (lv_sub hl [0, 1] rfl) hf
                                · have hf := mm_if0 hk38 hf
                                  by_cases hk41 : x1 = (16 : Int32)
                                  · have hf := mm_if1 hk41 hf
                                    refine lv_tableIn (off := 177) (tgt := 178) hx hb dX7_count_1 (by rw [hk41]; decide) (by rw [hk41]; decide) (by rw [hk41]; decide +kernel) (by decide) ?_
                                    exact J178 x0 x1 H locs ls hR hS (lv_sub hl [0, 1] rfl) hf
                                  · have hf := mm_if0 hk41 hf
                                    refine lv_tableOut (tgt := 190) hx hb dX7_count_1 (by have qhk1 := lv_neT (a := 0) hk1 rfl; have qhk4 := lv_neT (a := 1) hk4 rfl; have qhk5 := lv_neT (a := 2) hk5 rfl; have qhk8 := lv_neT (a := 3) hk8 rfl; have qhk11 := lv_neT (a := 4) hk11 rfl; have qhk12 := lv_neT (a := 5) hk12 rfl; have qhk15 := lv_neT (a := 6) hk15 rfl; have qhk18 := lv_neT (a := 7) hk18 rfl; have qhk21 := lv_neT (a := 8) hk21 rfl; have qhk22 := lv_neT (a := 9) hk22 rfl; have qhk25 := lv_neT (a := 10) hk25 rfl; have qhk28 := lv_neT (a := 11) hk28 rfl; have qhk31 := lv_neT (a := 12) hk31 rfl; have qhk34 := lv_neT (a := 13) hk34 rfl; have qhk36 := lv_neT (a := 14) hk36 rfl; have qhk38 := lv_neT (a := 15) hk38 rfl; have qhk41 := lv_neT (a := 16) hk41 rfl; omega) (by decide) ?_
                                    refine lv_iload_n hx hb dX7_count_190 rfl (lv_at hl 1 rfl) ?_
                                    refine lv_bipush (v := 20) hx hb dX7_count_191 (by decide) ?_
                                    refine lv_bipush (v := 26) hx hb dX7_count_193 (by decide) ?_
                                    obtain ⟨v42, ev42, hf⟩ := mm_bd hf
                                    refine mm_callSi (As := [.int x1, .int (20 : Int32), .int (26 : Int32)]) (rest := []) C hR hS hl.1 ss_X7_37 (jj_X7_in l g A M x1 (20 : Int32) (26 : Int32) v42 ev42) ⟨rfl, rfl, (Nat.le_of_ble_eq_true rfl), (Nat.le_of_ble_eq_true rfl)⟩ rfl (Nat.le_of_ble_eq_true rfl) ⟨Nat.zero_le _, Nat.zero_le _⟩ rfl dX7_count_195 (fun H locs hR hS => ?_)
                                    refine lv_if_eq (tgt := 212) hx hb dX7_count_198 (by decide) (fun hc => ?_) (fun hc => ?_)
                                    · have hf := mm_if1 hc hf
                                      refine lv_iconst (v := -1) hx hb dX7_count_212 (by decide) ?_
                                      exact mm_ire C hR hS hr ((Option.some.inj hf)) rfl dX7_count_213
                                    · have hf := mm_if0 hc hf
                                      refine lv_aload_n hx hb dX7_count_201 rfl (lv_at hl 0 rfl) ?_
                                      refine lv_iload_n hx hb dX7_count_202 rfl (lv_at hl 1 rfl) ?_
                                      refine lv_bipush (v := 20) hx hb dX7_count_203 (by decide) ?_
                                      refine lv_isub hx hb dX7_count_205 ?_
                                      obtain ⟨u43, eu43, hf⟩ := mm_bd hf
                                      obtain ⟨v44, ev44, hf⟩ := mm_bd hf
                                      refine mm_callVi (As := [.int (x1 - (20 : Int32))]) (rest := []) C hR hS hl.1 vs_X7_102 eu43 (jj_X7_account l g A M x0 (x1 - (20 : Int32)) v44 ev44) ⟨rfl, rfl, (Nat.le_of_ble_eq_true rfl), (Nat.le_of_ble_eq_true rfl)⟩ rfl (Nat.le_of_ble_eq_true rfl) ⟨Nat.zero_le _, Nat.zero_le _⟩ rfl dX7_count_206 (fun H locs hR hS => ?_)
                                      refine lv_goto (tgt := 213) hx hb dX7_count_209 (by decide) ?_
                                      exact mm_ire C hR hS hr ((Option.some.inj hf)) rfl dX7_count_213
def ff_X7_shade (M : mm_M) (x0 : Nat) (x1 : Int32) : Option Int32 := if (0 : Int32) ≤ x1 then (Option.bind (mm_gR 7 M x0 0) fun v1 => Option.bind (mm_aI 0 M v1 (4 : Int32)) fun v2 => if v2 ≤ x1 then (some (-4 : Int32)) else (Option.bind (mm_gR 7 M x0 0) fun v3 => Option.bind (mm_aI 0 M v3 ((12 : Int32) + x1)) fun v4 => some v4)) else (some (-1 : Int32))
def rm_X7_shade : Room := { frames := 0, cells := 0, slots := 0, locals := 0 }
set_option maxHeartbeats 4000000 in
set_option maxRecDepth 100000 in
theorem jj_X7_shade (l : Launch) (g : mm_G) (A : Nat → Prop) (M : mm_M) (x0 : Nat) (x1 : Int32) (r : Int32) (hf : ff_X7_shade M x0 x1 = some r) : Met l yX7_shade (mm_ws yX7_shade cX7_shade 2 (Option.some Jvm.ClassFile.FieldType.int)) rm_X7_shade (va_Pc [.ref x0, .int x1] (mm_B g A M)) (mm_Ti g A r M) 0 0 A := by
  refine mm_met (g := g) (lv := [(0, .ref x0), (1, .int x1)]) (fun U h => h.2) (by decide +kernel) (Nat.le_of_ble_eq_true rfl) rfl ?_
  intro p e s m args below meth c ls C hr hnm hB hl
  obtain ⟨hR, hK⟩ := hB
  have hx := C.1
  have hb := C.2.1
  suffices hmain : ∀ (H : Heap) (locs : List Loc), mm_R g A M H → va_S A s.heap H locs → W p l e rm_X7_shade s m args below meth c H locs 0 0 (MQ below (mm_Ti g A r M) args s 0 0 A) (F0 m 0 ls []) from hmain _ _ hR va_S.rf
  clear hR
  intro H locs hR hS
  unfold ff_X7_shade at hf
  refine lv_iload_n hx hb dX7_shade_0 rfl (lv_at hl 1 rfl) ?_
  refine lv_if_ge (tgt := 6) hx hb dX7_shade_1 (by decide) (fun hc => ?_) (fun hc => ?_)
  · have hf := mm_if1 hc hf
    refine lv_iload_n hx hb dX7_shade_6 rfl (lv_at hl 1 rfl) ?_
    refine lv_aload_n hx hb dX7_shade_7 rfl (lv_at hl 0 rfl) ?_
    obtain ⟨v1, ev1, hf⟩ := mm_bd hf
    refine mm_getR C hR fs_X7_7 ev1 dX7_shade_8 ?_
    refine lv_iconst (v := 4) hx hb dX7_shade_11 (by decide) ?_
    obtain ⟨v2, ev2, hf⟩ := mm_bd hf
    refine mm_iald C hR ev2 dX7_shade_12 ?_
    refine lv_icmp_ge (tgt := 28) hx hb dX7_shade_13 (by decide) (fun hc => ?_) (fun hc => ?_)
    · have hf := mm_if1 hc hf
      refine lv_bipush (v := -4) hx hb dX7_shade_28 (by decide) ?_
      exact mm_ire C hR hS hr ((Option.some.inj hf)) rfl dX7_shade_30
    · have hf := mm_if0 hc hf
      refine lv_aload_n hx hb dX7_shade_16 rfl (lv_at hl 0 rfl) ?_
      obtain ⟨v3, ev3, hf⟩ := mm_bd hf
      refine mm_getR C hR fs_X7_7 ev3 dX7_shade_17 ?_
      refine lv_bipush (v := 12) hx hb dX7_shade_20 (by decide) ?_
      refine lv_iload_n hx hb dX7_shade_22 rfl (lv_at hl 1 rfl) ?_
      refine lv_iadd hx hb dX7_shade_23 ?_
      obtain ⟨v4, ev4, hf⟩ := mm_bd hf
      refine mm_iald C hR ev4 dX7_shade_24 ?_
      refine lv_goto (tgt := 30) hx hb dX7_shade_25 (by decide) ?_
      exact mm_ire C hR hS hr ((Option.some.inj hf)) rfl dX7_shade_30
  · have hf := mm_if0 hc hf
    refine lv_iconst (v := -1) hx hb dX7_shade_4 (by decide) ?_
    exact mm_ire C hR hS hr ((Option.some.inj hf)) rfl dX7_shade_5
def ff_X7_undo (M : mm_M) (x0 : Nat) : Option ((Int32 × mm_M)) := Option.bind (mm_gI 7 M x0 3) fun v1 => if v1 = (0 : Int32) then (some ((-2 : Int32), M)) else (Option.bind (mm_gI 7 M x0 3) fun v2 => Option.bind (mm_pI 7 M x0 3 (v2 - (1 : Int32))) fun M3 => Option.bind (mm_gR 7 M3 x0 2) fun v4 => Option.bind (mm_gI 7 M3 x0 3) fun v5 => Option.bind (mm_gR 7 M3 x0 0) fun v6 => Option.bind (ff_X7_bring M3 v4 ((518 : Int32) * v5) v6 (0 : Int32)) fun M7 => Option.bind (mm_gI 7 M7 x0 3) fun v8 => some (v8, M7))
def rm_X7_undo : Room := { frames := 1, cells := 0, slots := 0, locals := 24 }
set_option maxHeartbeats 4000000 in
set_option maxRecDepth 100000 in
theorem jj_X7_undo (l : Launch) (g : mm_G) (A : Nat → Prop) (M : mm_M) (x0 : Nat) (r : Int32) (M2 : mm_M) (hf : ff_X7_undo M x0 = some (r, M2)) : Met l yX7_undo (mm_ws yX7_undo cX7_undo 1 (Option.some Jvm.ClassFile.FieldType.int)) rm_X7_undo (va_Pc [.ref x0] (mm_B g A M)) (mm_Ti g A r M2) 0 0 A := by
  refine mm_met (g := g) (lv := [(0, .ref x0)]) (fun U h => h.2) (by decide +kernel) (Nat.le_of_ble_eq_true rfl) rfl ?_
  intro p e s m args below meth c ls C hr hnm hB hl
  obtain ⟨hR, hK⟩ := hB
  have hx := C.1
  have hb := C.2.1
  suffices hmain : ∀ (H : Heap) (locs : List Loc), mm_R g A M H → va_S A s.heap H locs → W p l e rm_X7_undo s m args below meth c H locs 0 0 (MQ below (mm_Ti g A r M2) args s 0 0 A) (F0 m 0 ls []) from hmain _ _ hR va_S.rf
  clear hR
  intro H locs hR hS
  unfold ff_X7_undo at hf
  refine lv_aload_n hx hb dX7_undo_0 rfl (lv_at hl 0 rfl) ?_
  obtain ⟨v1, ev1, hf⟩ := mm_bd hf
  refine mm_getI C hR fs_X7_29 ev1 dX7_undo_1 ?_
  refine lv_if_ne (tgt := 10) hx hb dX7_undo_4 (by decide) (fun hc => ?_) (fun hc => ?_)
  · have hf := mm_if0 hc hf
    refine lv_aload_n hx hb dX7_undo_10 rfl (lv_at hl 0 rfl) ?_
    refine lv_dup hx hb dX7_undo_11 rfl ?_
    obtain ⟨v2, ev2, hf⟩ := mm_bd hf
    refine mm_getI C hR fs_X7_29 ev2 dX7_undo_12 ?_
    refine lv_iconst (v := 1) hx hb dX7_undo_15 (by decide) ?_
    refine lv_isub hx hb dX7_undo_16 ?_
    obtain ⟨M3, eM3, hf⟩ := mm_bd hf
    refine mm_putI C hR hS ps_X7_29 eM3 dX7_undo_17 (fun H locs hR hS => ?_)
    refine lv_aload_n hx hb dX7_undo_20 rfl (lv_at hl 0 rfl) ?_
    obtain ⟨v4, ev4, hf⟩ := mm_bd hf
    refine mm_getR C hR fs_X7_16 ev4 dX7_undo_21 ?_
    refine lv_sipush (v := 518) hx hb dX7_undo_24 (by decide) ?_
    refine lv_aload_n hx hb dX7_undo_27 rfl (lv_at hl 0 rfl) ?_
    obtain ⟨v5, ev5, hf⟩ := mm_bd hf
    refine mm_getI C hR fs_X7_29 ev5 dX7_undo_28 ?_
    refine lv_imul hx hb dX7_undo_31 ?_
    refine lv_aload_n hx hb dX7_undo_32 rfl (lv_at hl 0 rfl) ?_
    obtain ⟨v6, ev6, hf⟩ := mm_bd hf
    refine mm_getR C hR fs_X7_7 ev6 dX7_undo_33 ?_
    refine lv_iconst (v := 0) hx hb dX7_undo_36 (by decide) ?_
    obtain ⟨M7, eM7, hf⟩ := mm_bd hf
    refine mm_callSv (As := [.ref v4, .int ((518 : Int32) * v5), .ref v6, .int (0 : Int32)]) (rest := []) C hR hS hl.1 ss_X7_33 (jj_X7_bring l g A M3 v4 ((518 : Int32) * v5) v6 (0 : Int32) M7 eM7) ⟨rfl, rfl, (Nat.le_of_ble_eq_true rfl), (Nat.le_of_ble_eq_true rfl)⟩ rfl (Nat.le_of_ble_eq_true rfl) ⟨Nat.zero_le _, Nat.zero_le _⟩ rfl dX7_undo_37 (fun H locs hR hS => ?_)
    refine lv_aload_n hx hb dX7_undo_40 rfl (lv_at hl 0 rfl) ?_
    obtain ⟨v8, ev8, hf⟩ := mm_bd hf
    refine mm_getI C hR fs_X7_29 ev8 dX7_undo_41 ?_
    exact mm_ire C hR hS hr ((mm_pe hf).1) (mm_pe hf).2 dX7_undo_44
  · have hf := mm_if1 hc hf
    refine lv_bipush (v := -2) hx hb dX7_undo_7 (by decide) ?_
    exact mm_ire C hR hS hr ((mm_pe hf).1) (mm_pe hf).2 dX7_undo_9
