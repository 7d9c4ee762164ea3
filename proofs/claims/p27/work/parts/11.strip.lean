def ff_X4_init (sz : Nat) (M : mm_M) (x0 : Nat) : Option mm_M := Option.bind (mm_nI 0 6 sz M) fun M1 => Option.bind (mm_pR 4 M1 x0 0 sz) fun M2 => some M2
def rm_X4_init : Room := { frames := 1, cells := 1, slots := 6, locals := 20 }
set_option maxHeartbeats 4000000 in
set_option maxRecDepth 100000 in
theorem jj_X4_init (l : Launch) (g : mm_G) (A : Nat → Prop) (sz : Nat) (hAn : ∀ q, sz ≤ q → A q) (M : mm_M) (x0 : Nat) (M2 : mm_M) (hf : ff_X4_init sz M x0 = some M2) : Met l yX4_init (mm_ws yX4_init cX4_init 1 (Option.none : Option Jvm.ClassFile.FieldType)) rm_X4_init (va_Pc [.ref x0] (fun U => U.heap.size = sz ∧ mm_B g A M U)) (mm_Tz g A M2 (sz + 1)) 1 6 A := by
  refine mm_met (g := g) (lv := [(0, .ref x0)]) (fun U h => h.2.2) (by decide +kernel) (Nat.le_of_ble_eq_true rfl) rfl ?_
  intro p e s m args below meth c ls C hr hnm hB hl
  obtain ⟨hs0, hR, hK⟩ := hB
  have hz : sz ≤ s.heap.size := Nat.le_of_eq hs0.symm
  have hx := C.1
  have hb := C.2.1
  suffices hmain : ∀ (H : Heap) (locs : List Loc), mm_R g A M H → va_S A s.heap H locs → sz ≤ H.size → W p l e rm_X4_init s m args below meth c H locs 0 0 (MQ below (mm_Tz g A M2 (sz + 1)) args s 1 6 A) (F0 m 0 ls []) from hmain _ _ hR va_S.rf hz
  clear hR hz
  intro H locs hR hS hz
  unfold ff_X4_init at hf
  refine lv_aload_n hx hb dX4_init_0 rfl (lv_at hl 0 rfl) ?_
  refine mm_obj C hl.1 mw_76 mw_17 oc_i (Nat.le_of_ble_eq_true rfl) (Nat.le_of_ble_eq_true rfl) dX4_init_1 ?_
  refine lv_aload_n hx hb dX4_init_4 rfl (lv_at hl 0 rfl) ?_
  refine lv_bipush (v := 6) hx hb dX4_init_5 (by decide) ?_
  obtain ⟨M1, eM1, hf⟩ := mm_bd hf
  refine mm_newAx (z := sz) (cells := 0) (slots := 0) (ty := .int) (N' := 6) C hR hS hs0 hAn hz rfl (sz + 1) 1 6 rfl rfl rfl rfl mw_63 (mm_ht0 C.2.2.2.2.2.1) rfl (by decide) (by decide) (Nat.le_of_ble_eq_true rfl) (Nat.le_of_ble_eq_true rfl) (Nat.le_of_ble_eq_true rfl) eM1 dX4_init_7 (fun H hz hR hS => ?_)
  obtain ⟨M2, eM2, hf⟩ := mm_bd hf
  refine mm_putRz C hR hS hnm ps_X4_9 (fun v => ⟨rfl, rfl⟩) eM2 dX4_init_9 hz (fun H locs hz hR hS => ?_)
  exact mm_vrz C hR hS hr (Option.some.inj hf) hs0 hz rfl dX4_init_12
def ff_X4_copyFrom (M : mm_M) (x0 : Nat) (x1 : Nat) : Option mm_M := Option.bind (mm_gR 4 M x1 0) fun v1 => Option.bind (mm_gR 4 M x0 0) fun v2 => Option.bind (mm_gR 4 M x0 0) fun v3 => Option.bind (mm_ln M v3) fun v4 => Option.bind (mm_cp M v1 (0 : Int32) v2 (0 : Int32) v4) fun M5 => Option.bind (mm_gI 4 M5 x1 1) fun v6 => Option.bind (mm_pI 4 M5 x0 1 v6) fun M7 => Option.bind (mm_gI 4 M7 x1 2) fun v8 => Option.bind (mm_pI 4 M7 x0 2 v8) fun M9 => Option.bind (mm_gI 4 M9 x1 3) fun v10 => Option.bind (mm_pI 4 M9 x0 3 v10) fun M11 => Option.bind (mm_gI 4 M11 x1 4) fun v12 => Option.bind (mm_pI 4 M11 x0 4 v12) fun M13 => Option.bind (mm_gI 4 M13 x1 5) fun v14 => Option.bind (mm_pI 4 M13 x0 5 v14) fun M15 => some M15
def rm_X4_copyFrom : Room := { frames := 1, cells := 0, slots := 0, locals := 26 }
set_option maxHeartbeats 4000000 in
set_option maxRecDepth 100000 in
theorem jj_X4_copyFrom (l : Launch) (g : mm_G) (A : Nat → Prop) (M : mm_M) (x0 : Nat) (x1 : Nat) (M2 : mm_M) (hf : ff_X4_copyFrom M x0 x1 = some M2) : Met l yX4_copyFrom (mm_ws yX4_copyFrom cX4_copyFrom 2 (Option.none : Option Jvm.ClassFile.FieldType)) rm_X4_copyFrom (va_Pc [.ref x0, .ref x1] (mm_B g A M)) (mm_Tv g A M2) 0 0 A := by
  refine mm_met (g := g) (lv := [(0, .ref x0), (1, .ref x1)]) (fun U h => h.2) (by decide +kernel) (Nat.le_of_ble_eq_true rfl) rfl ?_
  intro p e s m args below meth c ls C hr hnm hB hl
  obtain ⟨hR, hK⟩ := hB
  have hx := C.1
  have hb := C.2.1
  suffices hmain : ∀ (H : Heap) (locs : List Loc), mm_R g A M H → va_S A s.heap H locs → W p l e rm_X4_copyFrom s m args below meth c H locs 0 0 (MQ below (mm_Tv g A M2) args s 0 0 A) (F0 m 0 ls []) from hmain _ _ hR va_S.rf
  clear hR
  intro H locs hR hS
  unfold ff_X4_copyFrom at hf
  refine lv_aload_n hx hb dX4_copyFrom_0 rfl (lv_at hl 1 rfl) ?_
  obtain ⟨v1, ev1, hf⟩ := mm_bd hf
  refine mm_getR C hR fs_X4_9 ev1 dX4_copyFrom_1 ?_
  refine lv_iconst (v := 0) hx hb dX4_copyFrom_4 (by decide) ?_
  refine lv_aload_n hx hb dX4_copyFrom_5 rfl (lv_at hl 0 rfl) ?_
  obtain ⟨v2, ev2, hf⟩ := mm_bd hf
  refine mm_getR C hR fs_X4_9 ev2 dX4_copyFrom_6 ?_
  refine lv_iconst (v := 0) hx hb dX4_copyFrom_9 (by decide) ?_
  refine lv_aload_n hx hb dX4_copyFrom_10 rfl (lv_at hl 0 rfl) ?_
  obtain ⟨v3, ev3, hf⟩ := mm_bd hf
  refine mm_getR C hR fs_X4_9 ev3 dX4_copyFrom_11 ?_
  obtain ⟨v4, ev4, hf⟩ := mm_bd hf
  refine mm_alen C hR ev4 dX4_copyFrom_14 ?_
  obtain ⟨M5, eM5, hf⟩ := mm_bd hf
  refine mm_copy C hR hS hl.1 mw_237 mw_228 mw_227 mw_10 eM5 (Nat.le_of_ble_eq_true rfl) (Nat.le_of_ble_eq_true rfl) dX4_copyFrom_15 (fun H locs hR hS => ?_)
  refine lv_aload_n hx hb dX4_copyFrom_18 rfl (lv_at hl 0 rfl) ?_
  refine lv_aload_n hx hb dX4_copyFrom_19 rfl (lv_at hl 1 rfl) ?_
  obtain ⟨v6, ev6, hf⟩ := mm_bd hf
  refine mm_getI C hR fs_X4_25 ev6 dX4_copyFrom_20 ?_
  obtain ⟨M7, eM7, hf⟩ := mm_bd hf
  refine mm_putI C hR hS ps_X4_25 eM7 dX4_copyFrom_23 (fun H locs hR hS => ?_)
  refine lv_aload_n hx hb dX4_copyFrom_26 rfl (lv_at hl 0 rfl) ?_
  refine lv_aload_n hx hb dX4_copyFrom_27 rfl (lv_at hl 1 rfl) ?_
  obtain ⟨v8, ev8, hf⟩ := mm_bd hf
  refine mm_getI C hR fs_X4_15 ev8 dX4_copyFrom_28 ?_
  obtain ⟨M9, eM9, hf⟩ := mm_bd hf
  refine mm_putI C hR hS ps_X4_15 eM9 dX4_copyFrom_31 (fun H locs hR hS => ?_)
  refine lv_aload_n hx hb dX4_copyFrom_34 rfl (lv_at hl 0 rfl) ?_
  refine lv_aload_n hx hb dX4_copyFrom_35 rfl (lv_at hl 1 rfl) ?_
  obtain ⟨v10, ev10, hf⟩ := mm_bd hf
  refine mm_getI C hR fs_X4_19 ev10 dX4_copyFrom_36 ?_
  obtain ⟨M11, eM11, hf⟩ := mm_bd hf
  refine mm_putI C hR hS ps_X4_19 eM11 dX4_copyFrom_39 (fun H locs hR hS => ?_)
  refine lv_aload_n hx hb dX4_copyFrom_42 rfl (lv_at hl 0 rfl) ?_
  refine lv_aload_n hx hb dX4_copyFrom_43 rfl (lv_at hl 1 rfl) ?_
  obtain ⟨v12, ev12, hf⟩ := mm_bd hf
  refine mm_getI C hR fs_X4_22 ev12 dX4_copyFrom_44 ?_
  obtain ⟨M13, eM13, hf⟩ := mm_bd hf
  refine mm_putI C hR hS ps_X4_22 eM13 dX4_copyFrom_47 (fun H locs hR hS => ?_)
  refine lv_aload_n hx hb dX4_copyFrom_50 rfl (lv_at hl 0 rfl) ?_
  refine lv_aload_n hx hb dX4_copyFrom_51 rfl (lv_at hl 1 rfl) ?_
  obtain ⟨v14, ev14, hf⟩ := mm_bd hf
  refine mm_getI C hR fs_X4_28 ev14 dX4_copyFrom_52 ?_
  obtain ⟨M15, eM15, hf⟩ := mm_bd hf
  refine mm_putI C hR hS ps_X4_28 eM15 dX4_copyFrom_55 (fun H locs hR hS => ?_)
  exact mm_vre C hR hS hr (Option.some.inj hf) dX4_copyFrom_58
def ff_X4_left (M : mm_M) (x0 : Nat) : Option Int32 := Option.bind (mm_gI 4 M x0 2) fun v1 => Option.bind (mm_gI 4 M x0 4) fun v2 => some (v1 - v2)
def rm_X4_left : Room := { frames := 0, cells := 0, slots := 0, locals := 0 }
set_option maxHeartbeats 4000000 in
set_option maxRecDepth 100000 in
theorem jj_X4_left (l : Launch) (g : mm_G) (A : Nat → Prop) (M : mm_M) (x0 : Nat) (r : Int32) (hf : ff_X4_left M x0 = some r) : Met l yX4_left (mm_ws yX4_left cX4_left 1 (Option.some Jvm.ClassFile.FieldType.int)) rm_X4_left (va_Pc [.ref x0] (mm_B g A M)) (mm_Ti g A r M) 0 0 A := by
  refine mm_met (g := g) (lv := [(0, .ref x0)]) (fun U h => h.2) (by decide +kernel) (Nat.le_of_ble_eq_true rfl) rfl ?_
  intro p e s m args below meth c ls C hr hnm hB hl
  obtain ⟨hR, hK⟩ := hB
  have hx := C.1
  have hb := C.2.1
  suffices hmain : ∀ (H : Heap) (locs : List Loc), mm_R g A M H → va_S A s.heap H locs → W p l e rm_X4_left s m args below meth c H locs 0 0 (MQ below (mm_Ti g A r M) args s 0 0 A) (F0 m 0 ls []) from hmain _ _ hR va_S.rf
  clear hR
  intro H locs hR hS
  unfold ff_X4_left at hf
  refine lv_aload_n hx hb dX4_left_0 rfl (lv_at hl 0 rfl) ?_
  obtain ⟨v1, ev1, hf⟩ := mm_bd hf
  refine mm_getI C hR fs_X4_15 ev1 dX4_left_1 ?_
  refine lv_aload_n hx hb dX4_left_4 rfl (lv_at hl 0 rfl) ?_
  obtain ⟨v2, ev2, hf⟩ := mm_bd hf
  refine mm_getI C hR fs_X4_22 ev2 dX4_left_5 ?_
  refine lv_isub hx hb dX4_left_8 ?_
  exact mm_ire C hR hS hr ((Option.some.inj hf)) rfl dX4_left_9
def ff_X4_begin (M : mm_M) (x0 : Nat) (x1 : Int32) (x2 : Int32) : Option mm_M := Option.bind (mm_pI 4 M x0 2 x1) fun M1 => Option.bind (mm_pI 4 M1 x0 3 x2) fun M2 => Option.bind (mm_pI 4 M2 x0 4 (0 : Int32)) fun M3 => Option.bind (mm_pI 4 M3 x0 1 (0 : Int32)) fun M4 => Option.bind (mm_pI 4 M4 x0 5 (0 : Int32)) fun M5 => some M5
def rm_X4_begin : Room := { frames := 0, cells := 0, slots := 0, locals := 0 }
set_option maxHeartbeats 4000000 in
set_option maxRecDepth 100000 in
theorem jj_X4_begin (l : Launch) (g : mm_G) (A : Nat → Prop) (M : mm_M) (x0 : Nat) (x1 : Int32) (x2 : Int32) (M2 : mm_M) (hf : ff_X4_begin M x0 x1 x2 = some M2) : Met l yX4_begin (mm_ws yX4_begin cX4_begin 3 (Option.none : Option Jvm.ClassFile.FieldType)) rm_X4_begin (va_Pc [.ref x0, .int x1, .int x2] (mm_B g A M)) (mm_Tv g A M2) 0 0 A := by
  refine mm_met (g := g) (lv := [(0, .ref x0), (1, .int x1), (2, .int x2)]) (fun U h => h.2) (by decide +kernel) (Nat.le_of_ble_eq_true rfl) rfl ?_
  intro p e s m args below meth c ls C hr hnm hB hl
  obtain ⟨hR, hK⟩ := hB
  have hx := C.1
  have hb := C.2.1
  suffices hmain : ∀ (H : Heap) (locs : List Loc), mm_R g A M H → va_S A s.heap H locs → W p l e rm_X4_begin s m args below meth c H locs 0 0 (MQ below (mm_Tv g A M2) args s 0 0 A) (F0 m 0 ls []) from hmain _ _ hR va_S.rf
  clear hR
  intro H locs hR hS
  unfold ff_X4_begin at hf
  refine lv_aload_n hx hb dX4_begin_0 rfl (lv_at hl 0 rfl) ?_
  refine lv_iload_n hx hb dX4_begin_1 rfl (lv_at hl 1 rfl) ?_
  obtain ⟨M1, eM1, hf⟩ := mm_bd hf
  refine mm_putI C hR hS ps_X4_15 eM1 dX4_begin_2 (fun H locs hR hS => ?_)
  refine lv_aload_n hx hb dX4_begin_5 rfl (lv_at hl 0 rfl) ?_
  refine lv_iload_n hx hb dX4_begin_6 rfl (lv_at hl 2 rfl) ?_
  obtain ⟨M2, eM2, hf⟩ := mm_bd hf
  refine mm_putI C hR hS ps_X4_19 eM2 dX4_begin_7 (fun H locs hR hS => ?_)
  refine lv_aload_n hx hb dX4_begin_10 rfl (lv_at hl 0 rfl) ?_
  refine lv_iconst (v := 0) hx hb dX4_begin_11 (by decide) ?_
  obtain ⟨M3, eM3, hf⟩ := mm_bd hf
  refine mm_putI C hR hS ps_X4_22 eM3 dX4_begin_12 (fun H locs hR hS => ?_)
  refine lv_aload_n hx hb dX4_begin_15 rfl (lv_at hl 0 rfl) ?_
  refine lv_iconst (v := 0) hx hb dX4_begin_16 (by decide) ?_
  obtain ⟨M4, eM4, hf⟩ := mm_bd hf
  refine mm_putI C hR hS ps_X4_25 eM4 dX4_begin_17 (fun H locs hR hS => ?_)
  refine lv_aload_n hx hb dX4_begin_20 rfl (lv_at hl 0 rfl) ?_
  refine lv_iconst (v := 0) hx hb dX4_begin_21 (by decide) ?_
  obtain ⟨M5, eM5, hf⟩ := mm_bd hf
  refine mm_putI C hR hS ps_X4_28 eM5 dX4_begin_22 (fun H locs hR hS => ?_)
  exact mm_vre C hR hS hr (Option.some.inj hf) dX4_begin_25
def ff_X4_hasFlawIn_j41 (M : mm_M) (x0 : Nat) (x1 : Int32) (x2 : Int32) (x3 : Int32) : Option (Int32 ⊕ (Int32 ⊕ Int32)) := some (.inl (x3 + (1 : Int32)))
def ff_X4_hasFlawIn_l2  (M : mm_M) (x0 : Nat) (x1 : Int32) (x2 : Int32) (x3 : Int32) : Option (Int32 ⊕ (Int32 ⊕ Int32)) := Option.bind (mm_gI 4 M x0 1) fun v1 => if v1 ≤ x3 then (some (.inr (.inl x3))) else (Option.bind (mm_gR 4 M x0 0) fun v2 => Option.bind (mm_ln M v2) fun v3 => if v3 ≤ x3 then (some (.inr (.inl x3))) else (Option.bind (mm_gR 4 M x0 0) fun v4 => Option.bind (mm_aI 0 M v4 x3) fun v5 => if v5 < x1 then (ff_X4_hasFlawIn_j41 M x0 x1 x2 x3) else (Option.bind (mm_gR 4 M x0 0) fun v6 => Option.bind (mm_aI 0 M v6 x3) fun v7 => if x2 ≤ v7 then (ff_X4_hasFlawIn_j41 M x0 x1 x2 x3) else (some (.inr (.inr (1 : Int32)))))))
def ff_X4_hasFlawIn (M : mm_M) (x0 : Nat) (x1 : Int32) (x2 : Int32) : Option Int32 := Option.bind (mm_it (mm_u1 (ff_X4_hasFlawIn_l2 M x0 x1 x2)) mm_fu (0 : Int32)) fun e8 => Sum.elim (mm_u1 (fun x3_9 => some (0 : Int32))) some e8
def rm_X4_hasFlawIn : Room := { frames := 0, cells := 0, slots := 0, locals := 0 }
set_option maxHeartbeats 4000000 in
set_option maxRecDepth 100000 in
theorem jj_X4_hasFlawIn (l : Launch) (g : mm_G) (A : Nat → Prop) (M : mm_M) (x0 : Nat) (x1 : Int32) (x2 : Int32) (r : Int32) (hf : ff_X4_hasFlawIn M x0 x1 x2 = some r) : Met l yX4_hasFlawIn (mm_ws yX4_hasFlawIn cX4_hasFlawIn 4 (Option.some Jvm.ClassFile.FieldType.boolean)) rm_X4_hasFlawIn (va_Pc [.ref x0, .int x1, .int x2] (mm_B g A M)) (mm_Ti g A r M) 0 0 A := by
  refine mm_met (g := g) (lv := [(0, .ref x0), (1, .int x1), (2, .int x2)]) (fun U h => h.2) (by decide +kernel) (Nat.le_of_ble_eq_true rfl) rfl ?_
  intro p e s m args below meth c ls C hr hnm hB hl
  obtain ⟨hR, hK⟩ := hB
  have hx := C.1
  have hb := C.2.1
  suffices hmain : ∀ (H : Heap) (locs : List Loc), mm_R g A M H → va_S A s.heap H locs → W p l e rm_X4_hasFlawIn s m args below meth c H locs 0 0 (MQ below (mm_Ti g A r M) args s 0 0 A) (F0 m 0 ls []) from hmain _ _ hR va_S.rf
  clear hR
  intro H locs hR hS
  have L2 : ∀ (x0 : Nat) (x1 : Int32) (x2 : Int32) (e1 : Int32 ⊕ Int32) (hX : ∀ (x3 : Int32), e1 = .inl x3 → ∀ (H : Heap) (locs : List Loc) (ls : Array Slot), mm_R g A M H → va_S A s.heap H locs → lv_has ls 4 [] → W p l e rm_X4_hasFlawIn s m args below meth c H locs 0 0 (MQ below (mm_Ti g A r M) args s 0 0 A) (F0 m 47 ls [])) (hY : ∀ (v : Int32), e1 = .inr v → v = r) (n : Nat) (x3 : Int32), mm_it (mm_u1 (ff_X4_hasFlawIn_l2 M x0 x1 x2)) n x3 = some e1 → ∀ (H : Heap) (locs : List Loc) (ls : Array Slot), mm_R g A M H → va_S A s.heap H locs → lv_has ls 4 [(0, .ref x0), (1, .int x1), (2, .int x2), (3, .int x3)] → W p l e rm_X4_hasFlawIn s m args below meth c H locs 0 0 (MQ below (mm_Ti g A r M) args s 0 0 A) (F0 m 2 ls []) := by
    intro x0 x1 x2 e1 hX hY n x3 hit
    refine mm_itW (Hd := fun st => ∀ (H : Heap) (locs : List Loc) (ls : Array Slot), mm_R g A M H → va_S A s.heap H locs → lv_has ls 4 [(0, .ref x0), (1, .int x1), (2, .int x2), (3, .int st)] → W p l e rm_X4_hasFlawIn s m args below meth c H locs 0 0 (MQ below (mm_Ti g A r M) args s 0 0 A) (F0 m 2 ls [])) (fun st y hf hin hout => ?_) n x3 hit
    revert hf; generalize st = x3; intro hf
    have hf := mm_u1e hf
    have J41 : ∀ (x3 : Int32) (H : Heap) (locs : List Loc) (ls : Array Slot), mm_R g A M H → va_S A s.heap H locs → lv_has ls 4 [(0, .ref x0), (1, .int x1), (2, .int x2), (3, .int x3)] → ff_X4_hasFlawIn_j41 M x0 x1 x2 x3 = some y → W p l e rm_X4_hasFlawIn s m args below meth c H locs 0 0 (MQ below (mm_Ti g A r M) args s 0 0 A) (F0 m 41 ls []) := by
      intro x3 H locs ls hR hS hl hf
      unfold ff_X4_hasFlawIn_j41 at hf
      refine lv_iinc (v := (x3 + (1 : Int32))) (lv' := [(3, .int (x3 + (1 : Int32))), (0, .ref x0), (1, .int x1), (2, .int x2)]) hx hb dX4_hasFlawIn_41 hl (k := 3) rfl rfl (by decide) rfl (fun ls hl => ?_)
      refine lv_goto (tgt := 2) hx hb dX4_hasFlawIn_44 (by decide) ?_
      exact hin _ (Option.some.inj hf).symm H locs ls hR hS (lv_sub hl [1, 2, 3, 0] rfl)
    intro H locs ls hR hS hl
    unfold ff_X4_hasFlawIn_l2 at hf
    refine lv_iload_n hx hb dX4_hasFlawIn_2 rfl (lv_at hl 3 rfl) ?_
    refine lv_aload_n hx hb dX4_hasFlawIn_3 rfl (lv_at hl 0 rfl) ?_
    obtain ⟨v1, ev1, hf⟩ := mm_bd hf
    refine mm_getI C hR fs_X4_25 ev1 dX4_hasFlawIn_4 ?_
    refine lv_icmp_ge (tgt := 47) hx hb dX4_hasFlawIn_7 (by decide) (fun hc => ?_) (fun hc => ?_)
    · have hf := mm_if1 hc hf
      exact hX _ (hout _ (Option.some.inj hf).symm).symm H locs ls hR hS (lv_sub hl [] rfl)
    · have hf := mm_if0 hc hf
      refine lv_iload_n hx hb dX4_hasFlawIn_10 rfl (lv_at hl 3 rfl) ?_
      refine lv_aload_n hx hb dX4_hasFlawIn_11 rfl (lv_at hl 0 rfl) ?_
      obtain ⟨v2, ev2, hf⟩ := mm_bd hf
      refine mm_getR C hR fs_X4_9 ev2 dX4_hasFlawIn_12 ?_
      obtain ⟨v3, ev3, hf⟩ := mm_bd hf
      refine mm_alen C hR ev3 dX4_hasFlawIn_15 ?_
      refine lv_icmp_ge (tgt := 47) hx hb dX4_hasFlawIn_16 (by decide) (fun hc => ?_) (fun hc => ?_)
      · have hf := mm_if1 hc hf
        exact hX _ (hout _ (Option.some.inj hf).symm).symm H locs ls hR hS (lv_sub hl [] rfl)
      · have hf := mm_if0 hc hf
        refine lv_aload_n hx hb dX4_hasFlawIn_19 rfl (lv_at hl 0 rfl) ?_
        obtain ⟨v4, ev4, hf⟩ := mm_bd hf
        refine mm_getR C hR fs_X4_9 ev4 dX4_hasFlawIn_20 ?_
        refine lv_iload_n hx hb dX4_hasFlawIn_23 rfl (lv_at hl 3 rfl) ?_
        obtain ⟨v5, ev5, hf⟩ := mm_bd hf
        refine mm_iald C hR ev5 dX4_hasFlawIn_24 ?_
        refine lv_iload_n hx hb dX4_hasFlawIn_25 rfl (lv_at hl 1 rfl) ?_
        refine lv_icmp_lt (tgt := 41) hx hb dX4_hasFlawIn_26 (by decide) (fun hc => ?_) (fun hc => ?_)
        · have hf := mm_if1 hc hf
          exact J41 x3 H locs ls hR hS (lv_sub hl [0, 1, 2, 3] rfl) hf
        · have hf := mm_if0 hc hf
          refine lv_aload_n hx hb dX4_hasFlawIn_29 rfl (lv_at hl 0 rfl) ?_
          obtain ⟨v6, ev6, hf⟩ := mm_bd hf
          refine mm_getR C hR fs_X4_9 ev6 dX4_hasFlawIn_30 ?_
          refine lv_iload_n hx hb dX4_hasFlawIn_33 rfl (lv_at hl 3 rfl) ?_
          obtain ⟨v7, ev7, hf⟩ := mm_bd hf
          refine mm_iald C hR ev7 dX4_hasFlawIn_34 ?_
          refine lv_iload_n hx hb dX4_hasFlawIn_35 rfl (lv_at hl 2 rfl) ?_
          refine lv_icmp_ge (tgt := 41) hx hb dX4_hasFlawIn_36 (by decide) (fun hc => ?_) (fun hc => ?_)
          · have hf := mm_if1 hc hf
            exact J41 x3 H locs ls hR hS (lv_sub hl [0, 1, 2, 3] rfl) hf
          · have hf := mm_if0 hc hf
            refine lv_iconst (v := 1) hx hb dX4_hasFlawIn_39 (by decide) ?_
            exact mm_zre C hR hS hr (Or.inr rfl) ((hY _ (hout _ (Option.some.inj hf).symm).symm)) rfl dX4_hasFlawIn_40
  unfold ff_X4_hasFlawIn at hf
  refine lv_iconst (v := 0) hx hb dX4_hasFlawIn_0 (by decide) ?_
  refine lv_istore_n (lv' := [(3, .int (0 : Int32)), (0, .ref x0), (1, .int x1), (2, .int x2)]) hx hb dX4_hasFlawIn_1 rfl hl (by decide) rfl (fun ls hl => ?_)
  obtain ⟨e8, he8, hf⟩ := mm_bd hf
  refine L2 x0 x1 x2 e8 (fun x3_9 he => ?_) (fun v he => by subst he; exact Option.some.inj (mm_sr hf)) _ (0 : Int32) he8 H locs ls hR hS (lv_sub hl [1, 2, 3, 0] rfl)
  subst he
  intro H locs ls hR hS hl
  have hf := mm_sl hf
  have hf := mm_u1e hf
  refine lv_iconst (v := 0) hx hb dX4_hasFlawIn_47 (by decide) ?_
  exact mm_zre C hR hS hr (Or.inl rfl) ((Option.some.inj hf)) rfl dX4_hasFlawIn_48
def ff_X4_addFlaw (M : mm_M) (x0 : Nat) (x1 : Int32) : Option mm_M := Option.bind (mm_gI 4 M x0 1) fun v1 => Option.bind (mm_gR 4 M x0 0) fun v2 => Option.bind (mm_ln M v2) fun v3 => if v3 ≤ v1 then (some M) else (Option.bind (mm_gR 4 M x0 0) fun v4 => Option.bind (mm_gI 4 M x0 1) fun v5 => Option.bind (mm_sI 0 M v4 v5 x1) fun M6 => Option.bind (mm_gI 4 M6 x0 1) fun v7 => Option.bind (mm_pI 4 M6 x0 1 (v7 + (1 : Int32))) fun M8 => some M8)
def rm_X4_addFlaw : Room := { frames := 0, cells := 0, slots := 0, locals := 0 }
set_option maxHeartbeats 4000000 in
set_option maxRecDepth 100000 in
theorem jj_X4_addFlaw (l : Launch) (g : mm_G) (A : Nat → Prop) (M : mm_M) (x0 : Nat) (x1 : Int32) (M2 : mm_M) (hf : ff_X4_addFlaw M x0 x1 = some M2) : Met l yX4_addFlaw (mm_ws yX4_addFlaw cX4_addFlaw 2 (Option.none : Option Jvm.ClassFile.FieldType)) rm_X4_addFlaw (va_Pc [.ref x0, .int x1] (mm_B g A M)) (mm_Tv g A M2) 0 0 A := by
  refine mm_met (g := g) (lv := [(0, .ref x0), (1, .int x1)]) (fun U h => h.2) (by decide +kernel) (Nat.le_of_ble_eq_true rfl) rfl ?_
  intro p e s m args below meth c ls C hr hnm hB hl
  obtain ⟨hR, hK⟩ := hB
  have hx := C.1
  have hb := C.2.1
  suffices hmain : ∀ (H : Heap) (locs : List Loc), mm_R g A M H → va_S A s.heap H locs → W p l e rm_X4_addFlaw s m args below meth c H locs 0 0 (MQ below (mm_Tv g A M2) args s 0 0 A) (F0 m 0 ls []) from hmain _ _ hR va_S.rf
  clear hR
  intro H locs hR hS
  unfold ff_X4_addFlaw at hf
  refine lv_aload_n hx hb dX4_addFlaw_0 rfl (lv_at hl 0 rfl) ?_
  obtain ⟨v1, ev1, hf⟩ := mm_bd hf
  refine mm_getI C hR fs_X4_25 ev1 dX4_addFlaw_1 ?_
  refine lv_aload_n hx hb dX4_addFlaw_4 rfl (lv_at hl 0 rfl) ?_
  obtain ⟨v2, ev2, hf⟩ := mm_bd hf
  refine mm_getR C hR fs_X4_9 ev2 dX4_addFlaw_5 ?_
  obtain ⟨v3, ev3, hf⟩ := mm_bd hf
  refine mm_alen C hR ev3 dX4_addFlaw_8 ?_
  refine lv_icmp_ge (tgt := 32) hx hb dX4_addFlaw_9 (by decide) (fun hc => ?_) (fun hc => ?_)
  · have hf := mm_if1 hc hf
    exact mm_vre C hR hS hr (Option.some.inj hf) dX4_addFlaw_32
  · have hf := mm_if0 hc hf
    refine lv_aload_n hx hb dX4_addFlaw_12 rfl (lv_at hl 0 rfl) ?_
    obtain ⟨v4, ev4, hf⟩ := mm_bd hf
    refine mm_getR C hR fs_X4_9 ev4 dX4_addFlaw_13 ?_
    refine lv_aload_n hx hb dX4_addFlaw_16 rfl (lv_at hl 0 rfl) ?_
    obtain ⟨v5, ev5, hf⟩ := mm_bd hf
    refine mm_getI C hR fs_X4_25 ev5 dX4_addFlaw_17 ?_
    refine lv_iload_n hx hb dX4_addFlaw_20 rfl (lv_at hl 1 rfl) ?_
    obtain ⟨M6, eM6, hf⟩ := mm_bd hf
    refine mm_iast C hR hS eM6 dX4_addFlaw_21 (fun H locs hR hS => ?_)
    refine lv_aload_n hx hb dX4_addFlaw_22 rfl (lv_at hl 0 rfl) ?_
    refine lv_dup hx hb dX4_addFlaw_23 rfl ?_
    obtain ⟨v7, ev7, hf⟩ := mm_bd hf
    refine mm_getI C hR fs_X4_25 ev7 dX4_addFlaw_24 ?_
    refine lv_iconst (v := 1) hx hb dX4_addFlaw_27 (by decide) ?_
    refine lv_iadd hx hb dX4_addFlaw_28 ?_
    obtain ⟨M8, eM8, hf⟩ := mm_bd hf
    refine mm_putI C hR hS ps_X4_25 eM8 dX4_addFlaw_29 (fun H locs hR hS => ?_)
    exact mm_vre C hR hS hr (Option.some.inj hf) dX4_addFlaw_32
def ff_X4_cutOff_j22 (M : mm_M) (x0 : Nat) (x1 : Int32) (x2 : Int32) (y0 : Int32) : Option ((Int32 × mm_M)) := Option.bind (mm_gI 4 M x0 4) fun v5 => Option.bind (mm_gI 4 M x0 2) fun v6 => Option.bind (mm_pI 4 M x0 4 (mm_mn ((v5 + x1) + x2) v6)) fun M7 => if y0 = (0 : Int32) then (Option.bind (mm_bz y0) fun b8 => some (b8, M7)) else (Option.bind (mm_gI 4 M7 x0 5) fun v9 => Option.bind (mm_pI 4 M7 x0 5 (v9 + (1 : Int32))) fun M10 => Option.bind (mm_bz y0) fun b11 => some (b11, M10))
def ff_X4_cutOff (M : mm_M) (x0 : Nat) (x1 : Int32) (x2 : Int32) : Option ((Int32 × mm_M)) := Option.bind (mm_gI 4 M x0 4) fun v1 => Option.bind (mm_gI 4 M x0 4) fun v2 => Option.bind (mm_ck 4 M x0) fun u3 => Option.bind (ff_X4_hasFlawIn M x0 v1 (v2 + x1)) fun v4 => if v4 = (0 : Int32) then (ff_X4_cutOff_j22 M x0 x1 x2 (1 : Int32)) else (ff_X4_cutOff_j22 M x0 x1 x2 (0 : Int32))
def rm_X4_cutOff : Room := { frames := 1, cells := 0, slots := 0, locals := 23 }
set_option maxHeartbeats 4000000 in
set_option maxRecDepth 100000 in
theorem jj_X4_cutOff (l : Launch) (g : mm_G) (A : Nat → Prop) (M : mm_M) (x0 : Nat) (x1 : Int32) (x2 : Int32) (r : Int32) (M2 : mm_M) (hf : ff_X4_cutOff M x0 x1 x2 = some (r, M2)) : Met l yX4_cutOff (mm_ws yX4_cutOff cX4_cutOff 4 (Option.some Jvm.ClassFile.FieldType.boolean)) rm_X4_cutOff (va_Pc [.ref x0, .int x1, .int x2] (mm_B g A M)) (mm_Ti g A r M2) 0 0 A := by
  refine mm_met (g := g) (lv := [(0, .ref x0), (1, .int x1), (2, .int x2)]) (fun U h => h.2) (by decide +kernel) (Nat.le_of_ble_eq_true rfl) rfl ?_
  intro p e s m args below meth c ls C hr hnm hB hl
  obtain ⟨hR, hK⟩ := hB
  have hx := C.1
  have hb := C.2.1
  suffices hmain : ∀ (H : Heap) (locs : List Loc), mm_R g A M H → va_S A s.heap H locs → W p l e rm_X4_cutOff s m args below meth c H locs 0 0 (MQ below (mm_Ti g A r M2) args s 0 0 A) (F0 m 0 ls []) from hmain _ _ hR va_S.rf
  clear hR
  intro H locs hR hS
  have J22 : ∀ (M : mm_M) (x0 : Nat) (x1 : Int32) (x2 : Int32) (y0 : Int32) (H : Heap) (locs : List Loc) (ls : Array Slot), mm_R g A M H → va_S A s.heap H locs → lv_has ls 4 [(0, .ref x0), (1, .int x1), (2, .int x2)] → ff_X4_cutOff_j22 M x0 x1 x2 y0 = some (r, M2) → W p l e rm_X4_cutOff s m args below meth c H locs 0 0 (MQ below (mm_Ti g A r M2) args s 0 0 A) (F0 m 22 ls [.int y0]) := by
    intro M x0 x1 x2 y0 H locs ls hR hS hl hf
    unfold ff_X4_cutOff_j22 at hf
    refine lv_istore_n (lv' := [(3, .int y0), (0, .ref x0), (1, .int x1), (2, .int x2)]) hx hb dX4_cutOff_22 rfl hl (by decide) rfl (fun ls hl => ?_)
    refine lv_aload_n hx hb dX4_cutOff_23 rfl (lv_at hl 1 rfl) ?_
    refine lv_aload_n hx hb dX4_cutOff_24 rfl (lv_at hl 1 rfl) ?_
    obtain ⟨v5, ev5, hf⟩ := mm_bd hf
    refine mm_getI C hR fs_X4_22 ev5 dX4_cutOff_25 ?_
    refine lv_iload_n hx hb dX4_cutOff_28 rfl (lv_at hl 2 rfl) ?_
    refine lv_iadd hx hb dX4_cutOff_29 ?_
    refine lv_iload_n hx hb dX4_cutOff_30 rfl (lv_at hl 3 rfl) ?_
    refine lv_iadd hx hb dX4_cutOff_31 ?_
    refine lv_aload_n hx hb dX4_cutOff_32 rfl (lv_at hl 1 rfl) ?_
    obtain ⟨v6, ev6, hf⟩ := mm_bd hf
    refine mm_getI C hR fs_X4_15 ev6 dX4_cutOff_33 ?_
    refine mm_min C hl.1 mw_446 mw_309 mw_9 mc_min (Nat.le_of_ble_eq_true rfl) (Nat.le_of_ble_eq_true rfl) ⟨Nat.zero_le _, Nat.zero_le _⟩ dX4_cutOff_36 ?_
    obtain ⟨M7, eM7, hf⟩ := mm_bd hf
    refine mm_putI C hR hS ps_X4_22 eM7 dX4_cutOff_39 (fun H locs hR hS => ?_)
    refine lv_iload_n hx hb dX4_cutOff_42 rfl (lv_at hl 0 rfl) ?_
    refine lv_if_eq (tgt := 56) hx hb dX4_cutOff_43 (by decide) (fun hc => ?_) (fun hc => ?_)
    · have hf := mm_if1 hc hf
      refine lv_iload_n hx hb dX4_cutOff_56 rfl (lv_at hl 0 rfl) ?_
      obtain ⟨b8, eb8, hf⟩ := mm_bd hf
      exact mm_zre C hR hS hr (mm_bz_s eb8).1 ((mm_bz_s eb8).2.trans (mm_pe hf).1) (mm_pe hf).2 dX4_cutOff_57
    · have hf := mm_if0 hc hf
      refine lv_aload_n hx hb dX4_cutOff_46 rfl (lv_at hl 1 rfl) ?_
      refine lv_dup hx hb dX4_cutOff_47 rfl ?_
      obtain ⟨v9, ev9, hf⟩ := mm_bd hf
      refine mm_getI C hR fs_X4_28 ev9 dX4_cutOff_48 ?_
      refine lv_iconst (v := 1) hx hb dX4_cutOff_51 (by decide) ?_
      refine lv_iadd hx hb dX4_cutOff_52 ?_
      obtain ⟨M10, eM10, hf⟩ := mm_bd hf
      refine mm_putI C hR hS ps_X4_28 eM10 dX4_cutOff_53 (fun H locs hR hS => ?_)
      refine lv_iload_n hx hb dX4_cutOff_56 rfl (lv_at hl 0 rfl) ?_
      obtain ⟨b11, eb11, hf⟩ := mm_bd hf
      exact mm_zre C hR hS hr (mm_bz_s eb11).1 ((mm_bz_s eb11).2.trans (mm_pe hf).1) (mm_pe hf).2 dX4_cutOff_57
  unfold ff_X4_cutOff at hf
  refine lv_aload_n hx hb dX4_cutOff_0 rfl (lv_at hl 0 rfl) ?_
  refine lv_aload_n hx hb dX4_cutOff_1 rfl (lv_at hl 0 rfl) ?_
  obtain ⟨v1, ev1, hf⟩ := mm_bd hf
  refine mm_getI C hR fs_X4_22 ev1 dX4_cutOff_2 ?_
  refine lv_aload_n hx hb dX4_cutOff_5 rfl (lv_at hl 0 rfl) ?_
  obtain ⟨v2, ev2, hf⟩ := mm_bd hf
  refine mm_getI C hR fs_X4_22 ev2 dX4_cutOff_6 ?_
  refine lv_iload_n hx hb dX4_cutOff_9 rfl (lv_at hl 1 rfl) ?_
  refine lv_iadd hx hb dX4_cutOff_10 ?_
  obtain ⟨u3, eu3, hf⟩ := mm_bd hf
  obtain ⟨v4, ev4, hf⟩ := mm_bd hf
  refine mm_callVi (As := [.int v1, .int (v2 + x1)]) (rest := []) C hR hS hl.1 vs_X4_41 eu3 (jj_X4_hasFlawIn l g A M x0 v1 (v2 + x1) v4 ev4) ⟨rfl, rfl, (Nat.le_of_ble_eq_true rfl), (Nat.le_of_ble_eq_true rfl)⟩ rfl (Nat.le_of_ble_eq_true rfl) ⟨Nat.zero_le _, Nat.zero_le _⟩ rfl dX4_cutOff_11 (fun H locs hR hS => ?_)
  refine lv_if_ne (tgt := 21) hx hb dX4_cutOff_14 (by decide) (fun hc => ?_) (fun hc => ?_)
  · have hf := mm_if0 hc hf
    refine lv_iconst (v := 0) hx hb dX4_cutOff_21 (by decide) ?_
    exact J22 M x0 x1 x2 (0 : Int32) H locs ls hR hS (lv_sub hl [0, 1, 2] rfl) hf
  · have hf := mm_if1 hc hf
    refine lv_iconst (v := 1) hx hb dX4_cutOff_17 (by decide) ?_
    refine lv_goto (tgt := 22) hx hb dX4_cutOff_18 (by decide) ?_
    exact J22 M x0 x1 x2 (1 : Int32) H locs ls hR hS (lv_sub hl [0, 1, 2] rfl) hf
def ff_X4_tesseraeAhead (M : mm_M) (x0 : Nat) (x1 : Int32) (x2 : Int32) : Option Int32 := Option.bind (mm_gI 4 M x0 2) fun v1 => Option.bind (mm_gI 4 M x0 4) fun v2 => if (x1 + x2) ≤ (0 : Int32) then (some (0 : Int32)) else (if x1 ≤ (v1 - v2) then (Option.bind (mm_dv ((v1 - v2) - x1) (x1 + x2)) fun v3 => some (v3 + (1 : Int32))) else (some (0 : Int32)))
def rm_X4_tesseraeAhead : Room := { frames := 0, cells := 0, slots := 0, locals := 0 }
set_option maxHeartbeats 4000000 in
set_option maxRecDepth 100000 in
theorem jj_X4_tesseraeAhead (l : Launch) (g : mm_G) (A : Nat → Prop) (M : mm_M) (x0 : Nat) (x1 : Int32) (x2 : Int32) (r : Int32) (hf : ff_X4_tesseraeAhead M x0 x1 x2 = some r) : Met l yX4_tesseraeAhead (mm_ws yX4_tesseraeAhead cX4_tesseraeAhead 5 (Option.some Jvm.ClassFile.FieldType.int)) rm_X4_tesseraeAhead (va_Pc [.ref x0, .int x1, .int x2] (mm_B g A M)) (mm_Ti g A r M) 0 0 A := by
  refine mm_met (g := g) (lv := [(0, .ref x0), (1, .int x1), (2, .int x2)]) (fun U h => h.2) (by decide +kernel) (Nat.le_of_ble_eq_true rfl) rfl ?_
  intro p e s m args below meth c ls C hr hnm hB hl
  obtain ⟨hR, hK⟩ := hB
  have hx := C.1
  have hb := C.2.1
  suffices hmain : ∀ (H : Heap) (locs : List Loc), mm_R g A M H → va_S A s.heap H locs → W p l e rm_X4_tesseraeAhead s m args below meth c H locs 0 0 (MQ below (mm_Ti g A r M) args s 0 0 A) (F0 m 0 ls []) from hmain _ _ hR va_S.rf
  clear hR
  intro H locs hR hS
  unfold ff_X4_tesseraeAhead at hf
  refine lv_aload_n hx hb dX4_tesseraeAhead_0 rfl (lv_at hl 0 rfl) ?_
  obtain ⟨v1, ev1, hf⟩ := mm_bd hf
  refine mm_getI C hR fs_X4_15 ev1 dX4_tesseraeAhead_1 ?_
  refine lv_aload_n hx hb dX4_tesseraeAhead_4 rfl (lv_at hl 0 rfl) ?_
  obtain ⟨v2, ev2, hf⟩ := mm_bd hf
  refine mm_getI C hR fs_X4_22 ev2 dX4_tesseraeAhead_5 ?_
  refine lv_isub hx hb dX4_tesseraeAhead_8 ?_
  refine lv_istore_n (lv' := [(3, .int (v1 - v2)), (0, .ref x0), (1, .int x1), (2, .int x2)]) hx hb dX4_tesseraeAhead_9 rfl hl (by decide) rfl (fun ls hl => ?_)
  refine lv_iload_n hx hb dX4_tesseraeAhead_10 rfl (lv_at hl 2 rfl) ?_
  refine lv_iload_n hx hb dX4_tesseraeAhead_11 rfl (lv_at hl 3 rfl) ?_
  refine lv_iadd hx hb dX4_tesseraeAhead_12 ?_
  refine lv_istore (lv' := [(4, .int (x1 + x2)), (3, .int (v1 - v2)), (0, .ref x0), (1, .int x1), (2, .int x2)]) hx hb dX4_tesseraeAhead_13 hl (by decide) rfl (fun ls hl => ?_)
  refine lv_iload hx hb dX4_tesseraeAhead_15 (lv_at hl 0 rfl) ?_
  refine lv_if_le (tgt := 25) hx hb dX4_tesseraeAhead_17 (by decide) (fun hc => ?_) (fun hc => ?_)
  · have hf := mm_if1 hc hf
    refine lv_iconst (v := 0) hx hb dX4_tesseraeAhead_25 (by decide) ?_
    exact mm_ire C hR hS hr ((Option.some.inj hf)) rfl dX4_tesseraeAhead_26
  · have hf := mm_if0 hc hf
    refine lv_iload_n hx hb dX4_tesseraeAhead_20 rfl (lv_at hl 1 rfl) ?_
    refine lv_iload_n hx hb dX4_tesseraeAhead_21 rfl (lv_at hl 3 rfl) ?_
    refine lv_icmp_ge (tgt := 27) hx hb dX4_tesseraeAhead_22 (by decide) (fun hc => ?_) (fun hc => ?_)
    · have hf := mm_if1 hc hf
      refine lv_iload_n hx hb dX4_tesseraeAhead_27 rfl (lv_at hl 1 rfl) ?_
      refine lv_iload_n hx hb dX4_tesseraeAhead_28 rfl (lv_at hl 3 rfl) ?_
      refine lv_isub hx hb dX4_tesseraeAhead_29 ?_
      refine lv_iload hx hb dX4_tesseraeAhead_30 (lv_at hl 0 rfl) ?_
      obtain ⟨v3, ev3, hf⟩ := mm_bd hf
      refine mm_idiv C ev3 dX4_tesseraeAhead_32 ?_
      refine lv_iconst (v := 1) hx hb dX4_tesseraeAhead_33 (by decide) ?_
      refine lv_iadd hx hb dX4_tesseraeAhead_34 ?_
      exact mm_ire C hR hS hr ((Option.some.inj hf)) rfl dX4_tesseraeAhead_35
    · have hf := mm_if0 hc hf
      refine lv_iconst (v := 0) hx hb dX4_tesseraeAhead_25 (by decide) ?_
      exact mm_ire C hR hS hr ((Option.some.inj hf)) rfl dX4_tesseraeAhead_26
def ff_X4_goodTesseraeAhead_j41 (M : mm_M) (x0 : Nat) (x1 : Int32) (x2 : Int32) (x3 : Int32) (x4 : Int32) (x5 : Int32) (x6 : Int32) : Option ((Int32 × Int32 × Int32) ⊕ (Int32 × Int32 × Int32)) := some (.inl (x4, (x5 + (x1 + x2)), (x6 + (1 : Int32))))
def ff_X4_goodTesseraeAhead_l19  (M : mm_M) (x0 : Nat) (x1 : Int32) (x2 : Int32) (x3 : Int32) (x4 : Int32) (x5 : Int32) (x6 : Int32) : Option ((Int32 × Int32 × Int32) ⊕ (Int32 × Int32 × Int32)) := if x3 ≤ x6 then (some (.inr (x4, x5, x6))) else (Option.bind (mm_ck 4 M x0) fun u4 => Option.bind (ff_X4_hasFlawIn M x0 x5 (x5 + x1)) fun v5 => if v5 = (0 : Int32) then (ff_X4_goodTesseraeAhead_j41 M x0 x1 x2 x3 (x4 + (1 : Int32)) x5 x6) else (ff_X4_goodTesseraeAhead_j41 M x0 x1 x2 x3 x4 x5 x6))
def ff_X4_goodTesseraeAhead (M : mm_M) (x0 : Nat) (x1 : Int32) (x2 : Int32) : Option Int32 := Option.bind (mm_ck 4 M x0) fun u1 => Option.bind (ff_X4_tesseraeAhead M x0 x1 x2) fun v2 => Option.bind (mm_gI 4 M x0 4) fun v3 => Option.bind (mm_it (mm_u3 (ff_X4_goodTesseraeAhead_l19 M x0 x1 x2 v2)) mm_fu ((0 : Int32), v3, (0 : Int32))) fun e6 => mm_u3 (fun x4_7 x5_8 x6_9 => some x4_7) e6
def rm_X4_goodTesseraeAhead : Room := { frames := 1, cells := 0, slots := 0, locals := 24 }
set_option maxHeartbeats 4000000 in
set_option maxRecDepth 100000 in
theorem jj_X4_goodTesseraeAhead (l : Launch) (g : mm_G) (A : Nat → Prop) (M : mm_M) (x0 : Nat) (x1 : Int32) (x2 : Int32) (r : Int32) (hf : ff_X4_goodTesseraeAhead M x0 x1 x2 = some r) : Met l yX4_goodTesseraeAhead (mm_ws yX4_goodTesseraeAhead cX4_goodTesseraeAhead 7 (Option.some Jvm.ClassFile.FieldType.int)) rm_X4_goodTesseraeAhead (va_Pc [.ref x0, .int x1, .int x2] (mm_B g A M)) (mm_Ti g A r M) 0 0 A := by
  refine mm_met (g := g) (lv := [(0, .ref x0), (1, .int x1), (2, .int x2)]) (fun U h => h.2) (by decide +kernel) (Nat.le_of_ble_eq_true rfl) rfl ?_
  intro p e s m args below meth c ls C hr hnm hB hl
  obtain ⟨hR, hK⟩ := hB
  have hx := C.1
  have hb := C.2.1
  suffices hmain : ∀ (H : Heap) (locs : List Loc), mm_R g A M H → va_S A s.heap H locs → W p l e rm_X4_goodTesseraeAhead s m args below meth c H locs 0 0 (MQ below (mm_Ti g A r M) args s 0 0 A) (F0 m 0 ls []) from hmain _ _ hR va_S.rf
  clear hR
  intro H locs hR hS
  have L19 : ∀ (x0 : Nat) (x1 : Int32) (x2 : Int32) (x3 : Int32) (e1 : Int32 × Int32 × Int32) (hX : ∀ (x4 : Int32) (x5 : Int32) (x6 : Int32), e1 = (x4, x5, x6) → ∀ (H : Heap) (locs : List Loc) (ls : Array Slot), mm_R g A M H → va_S A s.heap H locs → lv_has ls 7 [(4, .int x4)] → W p l e rm_X4_goodTesseraeAhead s m args below meth c H locs 0 0 (MQ below (mm_Ti g A r M) args s 0 0 A) (F0 m 55 ls [])) (n : Nat) (x4 : Int32) (x5 : Int32) (x6 : Int32), mm_it (mm_u3 (ff_X4_goodTesseraeAhead_l19 M x0 x1 x2 x3)) n (x4, x5, x6) = some e1 → ∀ (H : Heap) (locs : List Loc) (ls : Array Slot), mm_R g A M H → va_S A s.heap H locs → lv_has ls 7 [(0, .ref x0), (1, .int x1), (2, .int x2), (3, .int x3), (4, .int x4), (5, .int x5), (6, .int x6)] → W p l e rm_X4_goodTesseraeAhead s m args below meth c H locs 0 0 (MQ below (mm_Ti g A r M) args s 0 0 A) (F0 m 19 ls []) := by
    intro x0 x1 x2 x3 e1 hX n x4 x5 x6 hit
    refine mm_itW (Hd := fun st => ∀ (H : Heap) (locs : List Loc) (ls : Array Slot), mm_R g A M H → va_S A s.heap H locs → lv_has ls 7 [(0, .ref x0), (1, .int x1), (2, .int x2), (3, .int x3), (4, .int st.1), (5, .int st.2.1), (6, .int st.2.2)] → W p l e rm_X4_goodTesseraeAhead s m args below meth c H locs 0 0 (MQ below (mm_Ti g A r M) args s 0 0 A) (F0 m 19 ls [])) (fun st y hf hin hout => ?_) n (x4, x5, x6) hit
    obtain ⟨x4, x5, x6⟩ := st
    have hf := mm_u3e hf
    have J41 : ∀ (x4 : Int32) (x5 : Int32) (x6 : Int32) (H : Heap) (locs : List Loc) (ls : Array Slot), mm_R g A M H → va_S A s.heap H locs → lv_has ls 7 [(0, .ref x0), (1, .int x1), (2, .int x2), (3, .int x3), (4, .int x4), (5, .int x5), (6, .int x6)] → ff_X4_goodTesseraeAhead_j41 M x0 x1 x2 x3 x4 x5 x6 = some y → W p l e rm_X4_goodTesseraeAhead s m args below meth c H locs 0 0 (MQ below (mm_Ti g A r M) args s 0 0 A) (F0 m 41 ls []) := by
      intro x4 x5 x6 H locs ls hR hS hl hf
      unfold ff_X4_goodTesseraeAhead_j41 at hf
      refine lv_iload hx hb dX4_goodTesseraeAhead_41 (lv_at hl 5 rfl) ?_
      refine lv_iload_n hx hb dX4_goodTesseraeAhead_43 rfl (lv_at hl 1 rfl) ?_
      refine lv_iload_n hx hb dX4_goodTesseraeAhead_44 rfl (lv_at hl 2 rfl) ?_
      refine lv_iadd hx hb dX4_goodTesseraeAhead_45 ?_
      refine lv_iadd hx hb dX4_goodTesseraeAhead_46 ?_
      refine lv_istore (lv' := [(5, .int (x5 + (x1 + x2))), (0, .ref x0), (1, .int x1), (2, .int x2), (3, .int x3), (4, .int x4), (6, .int x6)]) hx hb dX4_goodTesseraeAhead_47 hl (by decide) rfl (fun ls hl => ?_)
      refine lv_iinc (v := (x6 + (1 : Int32))) (lv' := [(6, .int (x6 + (1 : Int32))), (5, .int (x5 + (x1 + x2))), (0, .ref x0), (1, .int x1), (2, .int x2), (3, .int x3), (4, .int x4)]) hx hb dX4_goodTesseraeAhead_49 hl (k := 6) rfl rfl (by decide) rfl (fun ls hl => ?_)
      refine lv_goto (tgt := 19) hx hb dX4_goodTesseraeAhead_52 (by decide) ?_
      exact hin _ (Option.some.inj hf).symm H locs ls hR hS (lv_sub hl [2, 3, 4, 5, 6, 1, 0] rfl)
    intro H locs ls hR hS hl
    unfold ff_X4_goodTesseraeAhead_l19 at hf
    refine lv_iload hx hb dX4_goodTesseraeAhead_19 (lv_at hl 6 rfl) ?_
    refine lv_iload_n hx hb dX4_goodTesseraeAhead_21 rfl (lv_at hl 3 rfl) ?_
    refine lv_icmp_ge (tgt := 55) hx hb dX4_goodTesseraeAhead_22 (by decide) (fun hc => ?_) (fun hc => ?_)
    · have hf := mm_if1 hc hf
      exact hX _ _ _ (hout _ (Option.some.inj hf).symm).symm H locs ls hR hS (lv_sub hl [4] rfl)
    · have hf := mm_if0 hc hf
      refine lv_aload_n hx hb dX4_goodTesseraeAhead_25 rfl (lv_at hl 0 rfl) ?_
      refine lv_iload hx hb dX4_goodTesseraeAhead_26 (lv_at hl 5 rfl) ?_
      refine lv_iload hx hb dX4_goodTesseraeAhead_28 (lv_at hl 5 rfl) ?_
      refine lv_iload_n hx hb dX4_goodTesseraeAhead_30 rfl (lv_at hl 1 rfl) ?_
      refine lv_iadd hx hb dX4_goodTesseraeAhead_31 ?_
      obtain ⟨u4, eu4, hf⟩ := mm_bd hf
      obtain ⟨v5, ev5, hf⟩ := mm_bd hf
      refine mm_callVi (As := [.int x5, .int (x5 + x1)]) (rest := []) C hR hS hl.1 vs_X4_41 eu4 (jj_X4_hasFlawIn l g A M x0 x5 (x5 + x1) v5 ev5) ⟨rfl, rfl, (Nat.le_of_ble_eq_true rfl), (Nat.le_of_ble_eq_true rfl)⟩ rfl (Nat.le_of_ble_eq_true rfl) ⟨Nat.zero_le _, Nat.zero_le _⟩ rfl dX4_goodTesseraeAhead_32 (fun H locs hR hS => ?_)
      refine lv_if_ne (tgt := 41) hx hb dX4_goodTesseraeAhead_35 (by decide) (fun hc => ?_) (fun hc => ?_)
      · have hf := mm_if0 hc hf
        exact J41 x4 x5 x6 H locs ls hR hS (lv_sub hl [0, 1, 2, 3, 4, 5, 6] rfl) hf
      · have hf := mm_if1 hc hf
        refine lv_iinc (v := (x4 + (1 : Int32))) (lv' := [(4, .int (x4 + (1 : Int32))), (0, .ref x0), (1, .int x1), (2, .int x2), (3, .int x3), (5, .int x5), (6, .int x6)]) hx hb dX4_goodTesseraeAhead_38 hl (k := 4) rfl rfl (by decide) rfl (fun ls hl => ?_)
        exact J41 (x4 + (1 : Int32)) x5 x6 H locs ls hR hS (lv_sub hl [1, 2, 3, 4, 0, 5, 6] rfl) hf
  unfold ff_X4_goodTesseraeAhead at hf
  refine lv_aload_n hx hb dX4_goodTesseraeAhead_0 rfl (lv_at hl 0 rfl) ?_
  refine lv_iload_n hx hb dX4_goodTesseraeAhead_1 rfl (lv_at hl 1 rfl) ?_
  refine lv_iload_n hx hb dX4_goodTesseraeAhead_2 rfl (lv_at hl 2 rfl) ?_
  obtain ⟨u1, eu1, hf⟩ := mm_bd hf
  obtain ⟨v2, ev2, hf⟩ := mm_bd hf
  refine mm_callVi (As := [.int x1, .int x2]) (rest := []) C hR hS hl.1 vs_X4_37 eu1 (jj_X4_tesseraeAhead l g A M x0 x1 x2 v2 ev2) ⟨rfl, rfl, (Nat.le_of_ble_eq_true rfl), (Nat.le_of_ble_eq_true rfl)⟩ rfl (Nat.le_of_ble_eq_true rfl) ⟨Nat.zero_le _, Nat.zero_le _⟩ rfl dX4_goodTesseraeAhead_3 (fun H locs hR hS => ?_)
  refine lv_istore_n (lv' := [(3, .int v2), (0, .ref x0), (1, .int x1), (2, .int x2)]) hx hb dX4_goodTesseraeAhead_6 rfl hl (by decide) rfl (fun ls hl => ?_)
  refine lv_iconst (v := 0) hx hb dX4_goodTesseraeAhead_7 (by decide) ?_
  refine lv_istore (lv' := [(4, .int (0 : Int32)), (3, .int v2), (0, .ref x0), (1, .int x1), (2, .int x2)]) hx hb dX4_goodTesseraeAhead_8 hl (by decide) rfl (fun ls hl => ?_)
  refine lv_aload_n hx hb dX4_goodTesseraeAhead_10 rfl (lv_at hl 2 rfl) ?_
  obtain ⟨v3, ev3, hf⟩ := mm_bd hf
  refine mm_getI C hR fs_X4_22 ev3 dX4_goodTesseraeAhead_11 ?_
  refine lv_istore (lv' := [(5, .int v3), (4, .int (0 : Int32)), (3, .int v2), (0, .ref x0), (1, .int x1), (2, .int x2)]) hx hb dX4_goodTesseraeAhead_14 hl (by decide) rfl (fun ls hl => ?_)
  refine lv_iconst (v := 0) hx hb dX4_goodTesseraeAhead_16 (by decide) ?_
  refine lv_istore (lv' := [(6, .int (0 : Int32)), (5, .int v3), (4, .int (0 : Int32)), (3, .int v2), (0, .ref x0), (1, .int x1), (2, .int x2)]) hx hb dX4_goodTesseraeAhead_17 hl (by decide) rfl (fun ls hl => ?_)
  obtain ⟨e6, he6, hf⟩ := mm_bd hf
  refine L19 x0 x1 x2 v2 e6 (fun x4_7 x5_8 x6_9 he => ?_) _ (0 : Int32) v3 (0 : Int32) he6 H locs ls hR hS (lv_sub hl [4, 5, 6, 3, 2, 1, 0] rfl)
  subst he
  intro H locs ls hR hS hl
  have hf := mm_u3e hf
  refine lv_iload hx hb dX4_goodTesseraeAhead_55 (lv_at hl 0 rfl) ?_
  exact mm_ire C hR hS hr ((Option.some.inj hf)) rfl dX4_goodTesseraeAhead_57
def ff_X4_givesGood_l16  (M : mm_M) (x0 : Nat) (x1 : Int32) (x2 : Int32) (x3 : Int32) (x4 : Int32) (x5 : Int32) : Option ((Int32 × Int32) ⊕ ((Int32 × Int32) ⊕ Int32)) := if x3 ≤ x5 then (some (.inr (.inl (x4, x5)))) else (Option.bind (mm_ck 4 M x0) fun u4 => Option.bind (ff_X4_hasFlawIn M x0 x4 (x4 + x1)) fun v5 => if v5 = (0 : Int32) then (some (.inr (.inr (1 : Int32)))) else (some (.inl ((x4 + (x1 + x2)), (x5 + (1 : Int32))))))
def ff_X4_givesGood (M : mm_M) (x0 : Nat) (x1 : Int32) (x2 : Int32) : Option Int32 := Option.bind (mm_ck 4 M x0) fun u1 => Option.bind (ff_X4_tesseraeAhead M x0 x1 x2) fun v2 => Option.bind (mm_gI 4 M x0 4) fun v3 => Option.bind (mm_it (mm_u2 (ff_X4_givesGood_l16 M x0 x1 x2 v2)) mm_fu (v3, (0 : Int32))) fun e6 => Sum.elim (mm_u2 (fun x4_7 x5_8 => some (0 : Int32))) some e6
def rm_X4_givesGood : Room := { frames := 1, cells := 0, slots := 0, locals := 24 }
set_option maxHeartbeats 4000000 in
set_option maxRecDepth 100000 in
theorem jj_X4_givesGood (l : Launch) (g : mm_G) (A : Nat → Prop) (M : mm_M) (x0 : Nat) (x1 : Int32) (x2 : Int32) (r : Int32) (hf : ff_X4_givesGood M x0 x1 x2 = some r) : Met l yX4_givesGood (mm_ws yX4_givesGood cX4_givesGood 6 (Option.some Jvm.ClassFile.FieldType.boolean)) rm_X4_givesGood (va_Pc [.ref x0, .int x1, .int x2] (mm_B g A M)) (mm_Ti g A r M) 0 0 A := by
  refine mm_met (g := g) (lv := [(0, .ref x0), (1, .int x1), (2, .int x2)]) (fun U h => h.2) (by decide +kernel) (Nat.le_of_ble_eq_true rfl) rfl ?_
  intro p e s m args below meth c ls C hr hnm hB hl
  obtain ⟨hR, hK⟩ := hB
  have hx := C.1
  have hb := C.2.1
  suffices hmain : ∀ (H : Heap) (locs : List Loc), mm_R g A M H → va_S A s.heap H locs → W p l e rm_X4_givesGood s m args below meth c H locs 0 0 (MQ below (mm_Ti g A r M) args s 0 0 A) (F0 m 0 ls []) from hmain _ _ hR va_S.rf
  clear hR
  intro H locs hR hS
  have L16 : ∀ (x0 : Nat) (x1 : Int32) (x2 : Int32) (x3 : Int32) (e1 : (Int32 × Int32) ⊕ Int32) (hX : ∀ (x4 : Int32) (x5 : Int32), e1 = .inl (x4, x5) → ∀ (H : Heap) (locs : List Loc) (ls : Array Slot), mm_R g A M H → va_S A s.heap H locs → lv_has ls 6 [] → W p l e rm_X4_givesGood s m args below meth c H locs 0 0 (MQ below (mm_Ti g A r M) args s 0 0 A) (F0 m 51 ls [])) (hY : ∀ (v : Int32), e1 = .inr v → v = r) (n : Nat) (x4 : Int32) (x5 : Int32), mm_it (mm_u2 (ff_X4_givesGood_l16 M x0 x1 x2 x3)) n (x4, x5) = some e1 → ∀ (H : Heap) (locs : List Loc) (ls : Array Slot), mm_R g A M H → va_S A s.heap H locs → lv_has ls 6 [(0, .ref x0), (1, .int x1), (2, .int x2), (3, .int x3), (4, .int x4), (5, .int x5)] → W p l e rm_X4_givesGood s m args below meth c H locs 0 0 (MQ below (mm_Ti g A r M) args s 0 0 A) (F0 m 16 ls []) := by
    intro x0 x1 x2 x3 e1 hX hY n x4 x5 hit
    refine mm_itW (Hd := fun st => ∀ (H : Heap) (locs : List Loc) (ls : Array Slot), mm_R g A M H → va_S A s.heap H locs → lv_has ls 6 [(0, .ref x0), (1, .int x1), (2, .int x2), (3, .int x3), (4, .int st.1), (5, .int st.2)] → W p l e rm_X4_givesGood s m args below meth c H locs 0 0 (MQ below (mm_Ti g A r M) args s 0 0 A) (F0 m 16 ls [])) (fun st y hf hin hout => ?_) n (x4, x5) hit
    obtain ⟨x4, x5⟩ := st
    have hf := mm_u2e hf
    intro H locs ls hR hS hl
    unfold ff_X4_givesGood_l16 at hf
    refine lv_iload hx hb dX4_givesGood_16 (lv_at hl 5 rfl) ?_
    refine lv_iload_n hx hb dX4_givesGood_18 rfl (lv_at hl 3 rfl) ?_
    refine lv_icmp_ge (tgt := 51) hx hb dX4_givesGood_19 (by decide) (fun hc => ?_) (fun hc => ?_)
    · have hf := mm_if1 hc hf
      exact hX _ _ (hout _ (Option.some.inj hf).symm).symm H locs ls hR hS (lv_sub hl [] rfl)
    · have hf := mm_if0 hc hf
      refine lv_aload_n hx hb dX4_givesGood_22 rfl (lv_at hl 0 rfl) ?_
      refine lv_iload hx hb dX4_givesGood_23 (lv_at hl 4 rfl) ?_
      refine lv_iload hx hb dX4_givesGood_25 (lv_at hl 4 rfl) ?_
      refine lv_iload_n hx hb dX4_givesGood_27 rfl (lv_at hl 1 rfl) ?_
      refine lv_iadd hx hb dX4_givesGood_28 ?_
      obtain ⟨u4, eu4, hf⟩ := mm_bd hf
      obtain ⟨v5, ev5, hf⟩ := mm_bd hf
      refine mm_callVi (As := [.int x4, .int (x4 + x1)]) (rest := []) C hR hS hl.1 vs_X4_41 eu4 (jj_X4_hasFlawIn l g A M x0 x4 (x4 + x1) v5 ev5) ⟨rfl, rfl, (Nat.le_of_ble_eq_true rfl), (Nat.le_of_ble_eq_true rfl)⟩ rfl (Nat.le_of_ble_eq_true rfl) ⟨Nat.zero_le _, Nat.zero_le _⟩ rfl dX4_givesGood_29 (fun H locs hR hS => ?_)
      refine lv_if_ne (tgt := 37) hx hb dX4_givesGood_32 (by decide) (fun hc => ?_) (fun hc => ?_)
      · have hf := mm_if0 hc hf
        refine lv_iload hx hb dX4_givesGood_37 (lv_at hl 4 rfl) ?_
        refine lv_iload_n hx hb dX4_givesGood_39 rfl (lv_at hl 1 rfl) ?_
        refine lv_iload_n hx hb dX4_givesGood_40 rfl (lv_at hl 2 rfl) ?_
        refine lv_iadd hx hb dX4_givesGood_41 ?_
        refine lv_iadd hx hb dX4_givesGood_42 ?_
        refine lv_istore (lv' := [(4, .int (x4 + (x1 + x2))), (0, .ref x0), (1, .int x1), (2, .int x2), (3, .int x3), (5, .int x5)]) hx hb dX4_givesGood_43 hl (by decide) rfl (fun ls hl => ?_)
        refine lv_iinc (v := (x5 + (1 : Int32))) (lv' := [(5, .int (x5 + (1 : Int32))), (4, .int (x4 + (x1 + x2))), (0, .ref x0), (1, .int x1), (2, .int x2), (3, .int x3)]) hx hb dX4_givesGood_45 hl (k := 5) rfl rfl (by decide) rfl (fun ls hl => ?_)
        refine lv_goto (tgt := 16) hx hb dX4_givesGood_48 (by decide) ?_
        exact hin _ (Option.some.inj hf).symm H locs ls hR hS (lv_sub hl [2, 3, 4, 5, 1, 0] rfl)
      · have hf := mm_if1 hc hf
        refine lv_iconst (v := 1) hx hb dX4_givesGood_35 (by decide) ?_
        exact mm_zre C hR hS hr (Or.inr rfl) ((hY _ (hout _ (Option.some.inj hf).symm).symm)) rfl dX4_givesGood_36
  unfold ff_X4_givesGood at hf
  refine lv_aload_n hx hb dX4_givesGood_0 rfl (lv_at hl 0 rfl) ?_
  refine lv_iload_n hx hb dX4_givesGood_1 rfl (lv_at hl 1 rfl) ?_
  refine lv_iload_n hx hb dX4_givesGood_2 rfl (lv_at hl 2 rfl) ?_
  obtain ⟨u1, eu1, hf⟩ := mm_bd hf
  obtain ⟨v2, ev2, hf⟩ := mm_bd hf
  refine mm_callVi (As := [.int x1, .int x2]) (rest := []) C hR hS hl.1 vs_X4_37 eu1 (jj_X4_tesseraeAhead l g A M x0 x1 x2 v2 ev2) ⟨rfl, rfl, (Nat.le_of_ble_eq_true rfl), (Nat.le_of_ble_eq_true rfl)⟩ rfl (Nat.le_of_ble_eq_true rfl) ⟨Nat.zero_le _, Nat.zero_le _⟩ rfl dX4_givesGood_3 (fun H locs hR hS => ?_)
  refine lv_istore_n (lv' := [(3, .int v2), (0, .ref x0), (1, .int x1), (2, .int x2)]) hx hb dX4_givesGood_6 rfl hl (by decide) rfl (fun ls hl => ?_)
  refine lv_aload_n hx hb dX4_givesGood_7 rfl (lv_at hl 1 rfl) ?_
  obtain ⟨v3, ev3, hf⟩ := mm_bd hf
  refine mm_getI C hR fs_X4_22 ev3 dX4_givesGood_8 ?_
  refine lv_istore (lv' := [(4, .int v3), (3, .int v2), (0, .ref x0), (1, .int x1), (2, .int x2)]) hx hb dX4_givesGood_11 hl (by decide) rfl (fun ls hl => ?_)
  refine lv_iconst (v := 0) hx hb dX4_givesGood_13 (by decide) ?_
  refine lv_istore (lv' := [(5, .int (0 : Int32)), (4, .int v3), (3, .int v2), (0, .ref x0), (1, .int x1), (2, .int x2)]) hx hb dX4_givesGood_14 hl (by decide) rfl (fun ls hl => ?_)
  obtain ⟨e6, he6, hf⟩ := mm_bd hf
  refine L16 x0 x1 x2 v2 e6 (fun x4_7 x5_8 he => ?_) (fun v he => by subst he; exact Option.some.inj (mm_sr hf)) _ v3 (0 : Int32) he6 H locs ls hR hS (lv_sub hl [3, 4, 5, 2, 1, 0] rfl)
  subst he
  intro H locs ls hR hS hl
  have hf := mm_sl hf
  have hf := mm_u2e hf
  refine lv_iconst (v := 0) hx hb dX4_givesGood_51 (by decide) ?_
  exact mm_zre C hR hS hr (Or.inl rfl) ((Option.some.inj hf)) rfl dX4_givesGood_52
