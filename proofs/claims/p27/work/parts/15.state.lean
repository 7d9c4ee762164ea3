def ff_X2_init (sz : Nat) (M : mm_M) (x0 : Nat) : Option mm_M := Option.bind (mm_nO 1 [.null, .null, .int 0, .int 0, .int 0, .int 0] sz M) fun M1 => Option.bind (ff_X1_init (sz + 1) M1 sz) fun M2 => Option.bind (mm_pR 2 M2 x0 0 sz) fun M3 => Option.bind (mm_nO 3 [.null, .null, .int 0, .int 0, .int 0, .int 0, .int 0, .int 0, .int 0] (sz + 3) M3) fun M4 => Option.bind (ff_X3_init (sz + 4) M4 (sz + 3)) fun M5 => Option.bind (mm_pR 2 M5 x0 1 (sz + 3)) fun M6 => Option.bind (mm_nI 0 144 (sz + 26) M6) fun M7 => Option.bind (mm_pR 2 M7 x0 2 (sz + 26)) fun M8 => Option.bind (mm_gR 2 M8 x0 2) fun v9 => Option.bind (ff_J7_fill_53178 M8 v9 (-1 : Int32)) fun M10 => some M10
def rm_X2_init : Room := { frames := 3, cells := 27, slots := 541, locals := 65 }
set_option maxHeartbeats 4000000 in
set_option maxRecDepth 100000 in
theorem jj_X2_init (l : Launch) (g : mm_G) (A : Nat → Prop) (sz : Nat) (hAn : ∀ q, sz ≤ q → A q) (M : mm_M) (x0 : Nat) (M2 : mm_M) (hf : ff_X2_init sz M x0 = some M2) : Met l yX2_init (mm_ws yX2_init cX2_init 1 (Option.none : Option Jvm.ClassFile.FieldType)) rm_X2_init (va_Pc [.ref x0] (fun U => U.heap.size = sz ∧ mm_B g A M U)) (mm_Tz g A M2 (sz + 27)) 27 541 A := by
  refine mm_met (g := g) (lv := [(0, .ref x0)]) (fun U h => h.2.2) (by decide +kernel) (Nat.le_of_ble_eq_true rfl) rfl ?_
  intro p e s m args below meth c ls C hr hnm hB hl
  obtain ⟨hs0, hR, hK⟩ := hB
  have hz : sz ≤ s.heap.size := Nat.le_of_eq hs0.symm
  have hx := C.1
  have hb := C.2.1
  suffices hmain : ∀ (H : Heap) (locs : List Loc), mm_R g A M H → va_S A s.heap H locs → sz ≤ H.size → W p l e rm_X2_init s m args below meth c H locs 0 0 (MQ below (mm_Tz g A M2 (sz + 27)) args s 27 541 A) (F0 m 0 ls []) from hmain _ _ hR va_S.rf hz
  clear hR hz
  intro H locs hR hS hz
  unfold ff_X2_init at hf
  refine lv_aload_n hx hb dX2_init_0 rfl (lv_at hl 0 rfl) ?_
  refine mm_obj C hl.1 mw_24 mw_17 oc_i (Nat.le_of_ble_eq_true rfl) (Nat.le_of_ble_eq_true rfl) dX2_init_1 ?_
  refine lv_aload_n hx hb dX2_init_4 rfl (lv_at hl 0 rfl) ?_
  obtain ⟨M1, eM1, hf⟩ := mm_bd hf
  refine mm_newOx (z := sz) (cells := 0) (slots := 0) C hR hS hs0 hAn hz rfl (sz + 1) 1 6 rfl rfl rfl tyX1 rfl iw_1 tyX1_ok mw_25 mw_26 mw_3 df_1 (Nat.le_of_ble_eq_true rfl) (Nat.le_of_ble_eq_true rfl) eM1 dX2_init_5 (fun H hz hR hS => ?_)
  refine lv_dup hx hb dX2_init_8 rfl ?_
  obtain ⟨M2, eM2, hf⟩ := mm_bd hf
  refine mm_callIx (As := []) (rest := [.ref sz, .ref x0]) (cells := 1) (slots := 6) (sz := (sz + 1)) C hR hS hl.1 hs0 hz rfl (sz + 3) 3 158 (by omega) rfl rfl is_X2_11 (jj_X1_init l g A (sz + 1) (fun q h => hAn q (by omega)) M1 sz M2 eM2) ⟨rfl, rfl, (Nat.le_of_ble_eq_true rfl), (Nat.le_of_ble_eq_true rfl)⟩ rfl (Nat.le_of_ble_eq_true rfl) ⟨(Nat.le_of_ble_eq_true rfl), (Nat.le_of_ble_eq_true rfl)⟩ rfl dX2_init_9 (fun H locs hz hR hS => ?_)
  obtain ⟨M3, eM3, hf⟩ := mm_bd hf
  refine mm_putRz C hR hS hnm ps_X2_12 (fun v => ⟨rfl, rfl⟩) eM3 dX2_init_12 hz (fun H locs hz hR hS => ?_)
  refine lv_aload_n hx hb dX2_init_15 rfl (lv_at hl 0 rfl) ?_
  obtain ⟨M4, eM4, hf⟩ := mm_bd hf
  refine mm_newOx (z := (sz + 3)) (cells := 3) (slots := 158) C hR hS hs0 hAn hz rfl (sz + 4) 4 167 rfl rfl rfl tyX3 rfl iw_3 tyX3_ok mw_64 mw_65 mw_5 df_3 (Nat.le_of_ble_eq_true rfl) (Nat.le_of_ble_eq_true rfl) eM4 dX2_init_16 (fun H hz hR hS => ?_)
  refine lv_dup hx hb dX2_init_19 rfl ?_
  obtain ⟨M5, eM5, hf⟩ := mm_bd hf
  refine mm_callIx (As := []) (rest := [.ref (sz + 3), .ref x0]) (cells := 4) (slots := 167) (sz := (sz + 4)) C hR hS hl.1 hs0 hz rfl (sz + 26) 26 397 (by omega) rfl rfl is_X2_20 (jj_X3_init l g A (sz + 4) (fun q h => hAn q (by omega)) M4 (sz + 3) M5 eM5) ⟨rfl, rfl, (Nat.le_of_ble_eq_true rfl), (Nat.le_of_ble_eq_true rfl)⟩ rfl (Nat.le_of_ble_eq_true rfl) ⟨(Nat.le_of_ble_eq_true rfl), (Nat.le_of_ble_eq_true rfl)⟩ rfl dX2_init_20 (fun H locs hz hR hS => ?_)
  obtain ⟨M6, eM6, hf⟩ := mm_bd hf
  refine mm_putRz C hR hS hnm ps_X2_21 (fun v => ⟨rfl, rfl⟩) eM6 dX2_init_23 hz (fun H locs hz hR hS => ?_)
  refine lv_aload_n hx hb dX2_init_26 rfl (lv_at hl 0 rfl) ?_
  refine lv_sipush (v := 144) hx hb dX2_init_27 (by decide) ?_
  obtain ⟨M7, eM7, hf⟩ := mm_bd hf
  refine mm_newAx (z := (sz + 26)) (cells := 26) (slots := 397) (ty := .int) (N' := 144) C hR hS hs0 hAn hz rfl (sz + 27) 27 541 rfl rfl rfl rfl mw_63 (mm_ht0 C.2.2.2.2.2.1) rfl (by decide) (by decide) (Nat.le_of_ble_eq_true rfl) (Nat.le_of_ble_eq_true rfl) (Nat.le_of_ble_eq_true rfl) eM7 dX2_init_30 (fun H hz hR hS => ?_)
  obtain ⟨M8, eM8, hf⟩ := mm_bd hf
  refine mm_putRz C hR hS hnm ps_X2_25 (fun v => ⟨rfl, rfl⟩) eM8 dX2_init_32 hz (fun H locs hz hR hS => ?_)
  refine lv_aload_n hx hb dX2_init_35 rfl (lv_at hl 0 rfl) ?_
  obtain ⟨v9, ev9, hf⟩ := mm_bd hf
  refine mm_getR C hR fs_X2_25 ev9 dX2_init_36 ?_
  refine lv_iconst (v := -1) hx hb dX2_init_39 (by decide) ?_
  obtain ⟨M10, eM10, hf⟩ := mm_bd hf
  refine mm_callSvz (As := [.ref v9, .int (-1 : Int32)]) (rest := []) C hR hS hl.1 ss_X2_29 (jj_J7_fill_53178 l g A M8 v9 (-1 : Int32) M10 eM10) ⟨rfl, rfl, (Nat.le_of_ble_eq_true rfl), (Nat.le_of_ble_eq_true rfl)⟩ rfl (Nat.le_of_ble_eq_true rfl) ⟨(Nat.le_of_ble_eq_true rfl), (Nat.le_of_ble_eq_true rfl)⟩ rfl dX2_init_40 hz (fun H locs hz hR hS => ?_)
  exact mm_vrz C hR hS hr (Option.some.inj hf) hs0 hz rfl dX2_init_43
def ff_X2_laidCells_j34 (M : mm_M) (x1 : Int32) (x2 : Nat) (x3 : Int32) (x4 : Int32) : Option ((Int32 × Int32) ⊕ (Int32 × Int32)) := some (.inl (x1, (x4 + (1 : Int32))))
def ff_X2_laidCells_l13  (M : mm_M) (x2 : Nat) (x3 : Int32) (x1 : Int32) (x4 : Int32) : Option ((Int32 × Int32) ⊕ (Int32 × Int32)) := if x3 ≤ x4 then (some (.inr (x1, x4))) else (Option.bind (mm_aI 0 M x2 x4) fun v3 => if v3 = (-1 : Int32) then (ff_X2_laidCells_j34 M x1 x2 x3 x4) else (ff_X2_laidCells_j34 M (x1 + (1 : Int32)) x2 x3 x4))
def ff_X2_laidCells (M : mm_M) (x0 : Nat) : Option Int32 := Option.bind (mm_gR 2 M x0 2) fun v1 => Option.bind (mm_ln M v1) fun v2 => Option.bind (mm_it (mm_u2 (ff_X2_laidCells_l13 M v1 v2)) mm_fu ((0 : Int32), (0 : Int32))) fun e4 => mm_u2 (fun x1_5 x4_6 => some x1_5) e4
def rm_X2_laidCells : Room := { frames := 0, cells := 0, slots := 0, locals := 0 }
set_option maxHeartbeats 4000000 in
set_option maxRecDepth 100000 in
theorem jj_X2_laidCells (l : Launch) (g : mm_G) (A : Nat → Prop) (M : mm_M) (x0 : Nat) (r : Int32) (hf : ff_X2_laidCells M x0 = some r) : Met l yX2_laidCells (mm_ws yX2_laidCells cX2_laidCells 6 (Option.some Jvm.ClassFile.FieldType.int)) rm_X2_laidCells (va_Pc [.ref x0] (mm_B g A M)) (mm_Ti g A r M) 0 0 A := by
  refine mm_met (g := g) (lv := [(0, .ref x0)]) (fun U h => h.2) (by decide +kernel) (Nat.le_of_ble_eq_true rfl) rfl ?_
  intro p e s m args below meth c ls C hr hnm hB hl
  obtain ⟨hR, hK⟩ := hB
  have hx := C.1
  have hb := C.2.1
  suffices hmain : ∀ (H : Heap) (locs : List Loc), mm_R g A M H → va_S A s.heap H locs → W p l e rm_X2_laidCells s m args below meth c H locs 0 0 (MQ below (mm_Ti g A r M) args s 0 0 A) (F0 m 0 ls []) from hmain _ _ hR va_S.rf
  clear hR
  intro H locs hR hS
  have L13 : ∀ (x2 : Nat) (x3 : Int32) (e1 : Int32 × Int32) (hX : ∀ (x1 : Int32) (x4 : Int32), e1 = (x1, x4) → ∀ (H : Heap) (locs : List Loc) (ls : Array Slot), mm_R g A M H → va_S A s.heap H locs → lv_has ls 6 [(1, .int x1)] → W p l e rm_X2_laidCells s m args below meth c H locs 0 0 (MQ below (mm_Ti g A r M) args s 0 0 A) (F0 m 40 ls [])) (n : Nat) (x1 : Int32) (x4 : Int32), mm_it (mm_u2 (ff_X2_laidCells_l13 M x2 x3)) n (x1, x4) = some e1 → ∀ (H : Heap) (locs : List Loc) (ls : Array Slot), mm_R g A M H → va_S A s.heap H locs → lv_has ls 6 [(1, .int x1), (2, .ref x2), (3, .int x3), (4, .int x4)] → W p l e rm_X2_laidCells s m args below meth c H locs 0 0 (MQ below (mm_Ti g A r M) args s 0 0 A) (F0 m 13 ls []) := by
    intro x2 x3 e1 hX n x1 x4 hit
    refine mm_itW (Hd := fun st => ∀ (H : Heap) (locs : List Loc) (ls : Array Slot), mm_R g A M H → va_S A s.heap H locs → lv_has ls 6 [(1, .int st.1), (2, .ref x2), (3, .int x3), (4, .int st.2)] → W p l e rm_X2_laidCells s m args below meth c H locs 0 0 (MQ below (mm_Ti g A r M) args s 0 0 A) (F0 m 13 ls [])) (fun st y hf hin hout => ?_) n (x1, x4) hit
    obtain ⟨x1, x4⟩ := st
    have hf := mm_u2e hf
    have J34 : ∀ (x1 : Int32) (x4 : Int32) (H : Heap) (locs : List Loc) (ls : Array Slot), mm_R g A M H → va_S A s.heap H locs → lv_has ls 6 [(1, .int x1), (2, .ref x2), (3, .int x3), (4, .int x4)] → ff_X2_laidCells_j34 M x1 x2 x3 x4 = some y → W p l e rm_X2_laidCells s m args below meth c H locs 0 0 (MQ below (mm_Ti g A r M) args s 0 0 A) (F0 m 34 ls []) := by
      intro x1 x4 H locs ls hR hS hl hf
      unfold ff_X2_laidCells_j34 at hf
      refine lv_iinc (v := (x4 + (1 : Int32))) (lv' := [(4, .int (x4 + (1 : Int32))), (1, .int x1), (2, .ref x2), (3, .int x3)]) hx hb dX2_laidCells_34 hl (k := 3) rfl rfl (by decide) rfl (fun ls hl => ?_)
      refine lv_goto (tgt := 13) hx hb dX2_laidCells_37 (by decide) ?_
      exact hin _ (Option.some.inj hf).symm H locs ls hR hS (lv_sub hl [1, 2, 3, 0] rfl)
    intro H locs ls hR hS hl
    unfold ff_X2_laidCells_l13 at hf
    refine lv_iload hx hb dX2_laidCells_13 (lv_at hl 3 rfl) ?_
    refine lv_iload_n hx hb dX2_laidCells_15 rfl (lv_at hl 2 rfl) ?_
    refine lv_icmp_ge (tgt := 40) hx hb dX2_laidCells_16 (by decide) (fun hc => ?_) (fun hc => ?_)
    · have hf := mm_if1 hc hf
      exact hX _ _ (hout _ (Option.some.inj hf).symm).symm H locs ls hR hS (lv_sub hl [0] rfl)
    · have hf := mm_if0 hc hf
      refine lv_aload_n hx hb dX2_laidCells_19 rfl (lv_at hl 1 rfl) ?_
      refine lv_iload hx hb dX2_laidCells_20 (lv_at hl 3 rfl) ?_
      obtain ⟨v3, ev3, hf⟩ := mm_bd hf
      refine mm_iald C hR ev3 dX2_laidCells_22 ?_
      refine lv_istore (lv' := [(5, .int v3), (1, .int x1), (2, .ref x2), (3, .int x3), (4, .int x4)]) hx hb dX2_laidCells_23 hl (by decide) rfl (fun ls hl => ?_)
      refine lv_iload hx hb dX2_laidCells_25 (lv_at hl 0 rfl) ?_
      refine lv_iconst (v := -1) hx hb dX2_laidCells_27 (by decide) ?_
      refine lv_icmp_eq (tgt := 34) hx hb dX2_laidCells_28 (by decide) (fun hc => ?_) (fun hc => ?_)
      · have hf := mm_if1 hc hf
        exact J34 x1 x4 H locs ls hR hS (lv_sub hl [1, 2, 3, 4] rfl) hf
      · have hf := mm_if0 hc hf
        refine lv_iinc (v := (x1 + (1 : Int32))) (lv' := [(1, .int (x1 + (1 : Int32))), (5, .int v3), (2, .ref x2), (3, .int x3), (4, .int x4)]) hx hb dX2_laidCells_31 hl (k := 1) rfl rfl (by decide) rfl (fun ls hl => ?_)
        exact J34 (x1 + (1 : Int32)) x4 H locs ls hR hS (lv_sub hl [0, 2, 3, 4] rfl) hf
  unfold ff_X2_laidCells at hf
  refine lv_iconst (v := 0) hx hb dX2_laidCells_0 (by decide) ?_
  refine lv_istore_n (lv' := [(1, .int (0 : Int32)), (0, .ref x0)]) hx hb dX2_laidCells_1 rfl hl (by decide) rfl (fun ls hl => ?_)
  refine lv_aload_n hx hb dX2_laidCells_2 rfl (lv_at hl 1 rfl) ?_
  obtain ⟨v1, ev1, hf⟩ := mm_bd hf
  refine mm_getR C hR fs_X2_25 ev1 dX2_laidCells_3 ?_
  refine lv_astore_n (lv' := [(2, .ref v1), (1, .int (0 : Int32)), (0, .ref x0)]) hx hb dX2_laidCells_6 rfl hl (by decide) rfl (fun ls hl => ?_)
  refine lv_aload_n hx hb dX2_laidCells_7 rfl (lv_at hl 0 rfl) ?_
  obtain ⟨v2, ev2, hf⟩ := mm_bd hf
  refine mm_alen C hR ev2 dX2_laidCells_8 ?_
  refine lv_istore_n (lv' := [(3, .int v2), (2, .ref v1), (1, .int (0 : Int32)), (0, .ref x0)]) hx hb dX2_laidCells_9 rfl hl (by decide) rfl (fun ls hl => ?_)
  refine lv_iconst (v := 0) hx hb dX2_laidCells_10 (by decide) ?_
  refine lv_istore (lv' := [(4, .int (0 : Int32)), (3, .int v2), (2, .ref v1), (1, .int (0 : Int32)), (0, .ref x0)]) hx hb dX2_laidCells_11 hl (by decide) rfl (fun ls hl => ?_)
  obtain ⟨e4, he4, hf⟩ := mm_bd hf
  refine L13 v1 v2 e4 (fun x1_5 x4_6 he => ?_) _ (0 : Int32) (0 : Int32) he4 H locs ls hR hS (lv_sub hl [3, 2, 1, 0] rfl)
  subst he
  intro H locs ls hR hS hl
  have hf := mm_u2e hf
  refine lv_iload_n hx hb dX2_laidCells_40 rfl (lv_at hl 0 rfl) ?_
  exact mm_ire C hR hS hr ((Option.some.inj hf)) rfl dX2_laidCells_41
def ff_X2_copyFrom (M : mm_M) (x0 : Nat) (x1 : Nat) : Option mm_M := Option.bind (mm_gR 2 M x0 0) fun v1 => Option.bind (mm_gR 2 M x1 0) fun v2 => Option.bind (mm_ck 1 M v1) fun u3 => Option.bind (ff_X1_copyFrom M v1 v2) fun M4 => Option.bind (mm_gR 2 M4 x0 1) fun v5 => Option.bind (mm_gR 2 M4 x1 1) fun v6 => Option.bind (mm_ck 3 M4 v5) fun u7 => Option.bind (ff_X3_copyFrom M4 v5 v6) fun M8 => Option.bind (mm_gR 2 M8 x1 2) fun v9 => Option.bind (mm_gR 2 M8 x0 2) fun v10 => Option.bind (mm_gR 2 M8 x0 2) fun v11 => Option.bind (mm_ln M8 v11) fun v12 => Option.bind (mm_cp M8 v9 (0 : Int32) v10 (0 : Int32) v12) fun M13 => Option.bind (mm_gI 2 M13 x1 3) fun v14 => Option.bind (mm_pI 2 M13 x0 3 v14) fun M15 => some M15
def rm_X2_copyFrom : Room := { frames := 3, cells := 0, slots := 0, locals := 69 }
set_option maxHeartbeats 4000000 in
set_option maxRecDepth 100000 in
theorem jj_X2_copyFrom (l : Launch) (g : mm_G) (A : Nat → Prop) (M : mm_M) (x0 : Nat) (x1 : Nat) (M2 : mm_M) (hf : ff_X2_copyFrom M x0 x1 = some M2) : Met l yX2_copyFrom (mm_ws yX2_copyFrom cX2_copyFrom 2 (Option.none : Option Jvm.ClassFile.FieldType)) rm_X2_copyFrom (va_Pc [.ref x0, .ref x1] (mm_B g A M)) (mm_Tv g A M2) 0 0 A := by
  refine mm_met (g := g) (lv := [(0, .ref x0), (1, .ref x1)]) (fun U h => h.2) (by decide +kernel) (Nat.le_of_ble_eq_true rfl) rfl ?_
  intro p e s m args below meth c ls C hr hnm hB hl
  obtain ⟨hR, hK⟩ := hB
  have hx := C.1
  have hb := C.2.1
  suffices hmain : ∀ (H : Heap) (locs : List Loc), mm_R g A M H → va_S A s.heap H locs → W p l e rm_X2_copyFrom s m args below meth c H locs 0 0 (MQ below (mm_Tv g A M2) args s 0 0 A) (F0 m 0 ls []) from hmain _ _ hR va_S.rf
  clear hR
  intro H locs hR hS
  unfold ff_X2_copyFrom at hf
  refine lv_aload_n hx hb dX2_copyFrom_0 rfl (lv_at hl 0 rfl) ?_
  obtain ⟨v1, ev1, hf⟩ := mm_bd hf
  refine mm_getR C hR fs_X2_12 ev1 dX2_copyFrom_1 ?_
  refine lv_aload_n hx hb dX2_copyFrom_4 rfl (lv_at hl 1 rfl) ?_
  obtain ⟨v2, ev2, hf⟩ := mm_bd hf
  refine mm_getR C hR fs_X2_12 ev2 dX2_copyFrom_5 ?_
  obtain ⟨u3, eu3, hf⟩ := mm_bd hf
  obtain ⟨M4, eM4, hf⟩ := mm_bd hf
  refine mm_callVv (As := [.ref v2]) (rest := []) C hR hS hl.1 vs_X2_35 eu3 (jj_X1_copyFrom l g A M v1 v2 M4 eM4) ⟨rfl, rfl, (Nat.le_of_ble_eq_true rfl), (Nat.le_of_ble_eq_true rfl)⟩ rfl (Nat.le_of_ble_eq_true rfl) ⟨Nat.zero_le _, Nat.zero_le _⟩ rfl dX2_copyFrom_8 (fun H locs hR hS => ?_)
  refine lv_aload_n hx hb dX2_copyFrom_11 rfl (lv_at hl 0 rfl) ?_
  obtain ⟨v5, ev5, hf⟩ := mm_bd hf
  refine mm_getR C hR fs_X2_21 ev5 dX2_copyFrom_12 ?_
  refine lv_aload_n hx hb dX2_copyFrom_15 rfl (lv_at hl 1 rfl) ?_
  obtain ⟨v6, ev6, hf⟩ := mm_bd hf
  refine mm_getR C hR fs_X2_21 ev6 dX2_copyFrom_16 ?_
  obtain ⟨u7, eu7, hf⟩ := mm_bd hf
  obtain ⟨M8, eM8, hf⟩ := mm_bd hf
  refine mm_callVv (As := [.ref v6]) (rest := []) C hR hS hl.1 vs_X2_39 eu7 (jj_X3_copyFrom l g A M4 v5 v6 M8 eM8) ⟨rfl, rfl, (Nat.le_of_ble_eq_true rfl), (Nat.le_of_ble_eq_true rfl)⟩ rfl (Nat.le_of_ble_eq_true rfl) ⟨Nat.zero_le _, Nat.zero_le _⟩ rfl dX2_copyFrom_19 (fun H locs hR hS => ?_)
  refine lv_aload_n hx hb dX2_copyFrom_22 rfl (lv_at hl 1 rfl) ?_
  obtain ⟨v9, ev9, hf⟩ := mm_bd hf
  refine mm_getR C hR fs_X2_25 ev9 dX2_copyFrom_23 ?_
  refine lv_iconst (v := 0) hx hb dX2_copyFrom_26 (by decide) ?_
  refine lv_aload_n hx hb dX2_copyFrom_27 rfl (lv_at hl 0 rfl) ?_
  obtain ⟨v10, ev10, hf⟩ := mm_bd hf
  refine mm_getR C hR fs_X2_25 ev10 dX2_copyFrom_28 ?_
  refine lv_iconst (v := 0) hx hb dX2_copyFrom_31 (by decide) ?_
  refine lv_aload_n hx hb dX2_copyFrom_32 rfl (lv_at hl 0 rfl) ?_
  obtain ⟨v11, ev11, hf⟩ := mm_bd hf
  refine mm_getR C hR fs_X2_25 ev11 dX2_copyFrom_33 ?_
  obtain ⟨v12, ev12, hf⟩ := mm_bd hf
  refine mm_alen C hR ev12 dX2_copyFrom_36 ?_
  obtain ⟨M13, eM13, hf⟩ := mm_bd hf
  refine mm_copy C hR hS hl.1 mw_239 mw_228 mw_227 mw_10 eM13 (Nat.le_of_ble_eq_true rfl) (Nat.le_of_ble_eq_true rfl) dX2_copyFrom_37 (fun H locs hR hS => ?_)
  refine lv_aload_n hx hb dX2_copyFrom_40 rfl (lv_at hl 0 rfl) ?_
  refine lv_aload_n hx hb dX2_copyFrom_41 rfl (lv_at hl 1 rfl) ?_
  obtain ⟨v14, ev14, hf⟩ := mm_bd hf
  refine mm_getI C hR fs_X2_48 ev14 dX2_copyFrom_42 ?_
  obtain ⟨M15, eM15, hf⟩ := mm_bd hf
  refine mm_putI C hR hS ps_X2_48 eM15 dX2_copyFrom_45 (fun H locs hR hS => ?_)
  exact mm_vre C hR hS hr (Option.some.inj hf) dX2_copyFrom_48
def ff_X2_laidOrNone (M : mm_M) (x0 : Nat) (x1 : Int32) (x2 : Int32) : Option Int32 := Option.bind (mm_gR 2 M x0 0) fun v1 => Option.bind (mm_ck 1 M v1) fun u2 => Option.bind (ff_X1_hasCell M v1 x1 x2) fun v3 => if v3 = (0 : Int32) then (some (-1 : Int32)) else (Option.bind (mm_gR 2 M x0 2) fun v4 => Option.bind (mm_aI 0 M v4 ((x2 * (12 : Int32)) + x1)) fun v5 => some v5)
def rm_X2_laidOrNone : Room := { frames := 1, cells := 0, slots := 0, locals := 22 }
set_option maxHeartbeats 4000000 in
set_option maxRecDepth 100000 in
theorem jj_X2_laidOrNone (l : Launch) (g : mm_G) (A : Nat → Prop) (M : mm_M) (x0 : Nat) (x1 : Int32) (x2 : Int32) (r : Int32) (hf : ff_X2_laidOrNone M x0 x1 x2 = some r) : Met l yX2_laidOrNone (mm_ws yX2_laidOrNone cX2_laidOrNone 3 (Option.some Jvm.ClassFile.FieldType.int)) rm_X2_laidOrNone (va_Pc [.ref x0, .int x1, .int x2] (mm_B g A M)) (mm_Ti g A r M) 0 0 A := by
  refine mm_met (g := g) (lv := [(0, .ref x0), (1, .int x1), (2, .int x2)]) (fun U h => h.2) (by decide +kernel) (Nat.le_of_ble_eq_true rfl) rfl ?_
  intro p e s m args below meth c ls C hr hnm hB hl
  obtain ⟨hR, hK⟩ := hB
  have hx := C.1
  have hb := C.2.1
  suffices hmain : ∀ (H : Heap) (locs : List Loc), mm_R g A M H → va_S A s.heap H locs → W p l e rm_X2_laidOrNone s m args below meth c H locs 0 0 (MQ below (mm_Ti g A r M) args s 0 0 A) (F0 m 0 ls []) from hmain _ _ hR va_S.rf
  clear hR
  intro H locs hR hS
  unfold ff_X2_laidOrNone at hf
  refine lv_aload_n hx hb dX2_laidOrNone_0 rfl (lv_at hl 0 rfl) ?_
  obtain ⟨v1, ev1, hf⟩ := mm_bd hf
  refine mm_getR C hR fs_X2_12 ev1 dX2_laidOrNone_1 ?_
  refine lv_iload_n hx hb dX2_laidOrNone_4 rfl (lv_at hl 1 rfl) ?_
  refine lv_iload_n hx hb dX2_laidOrNone_5 rfl (lv_at hl 2 rfl) ?_
  obtain ⟨u2, eu2, hf⟩ := mm_bd hf
  obtain ⟨v3, ev3, hf⟩ := mm_bd hf
  refine mm_callVi (As := [.int x1, .int x2]) (rest := []) C hR hS hl.1 vs_X2_52 eu2 (jj_X1_hasCell l g A M v1 x1 x2 v3 ev3) ⟨rfl, rfl, (Nat.le_of_ble_eq_true rfl), (Nat.le_of_ble_eq_true rfl)⟩ rfl (Nat.le_of_ble_eq_true rfl) ⟨Nat.zero_le _, Nat.zero_le _⟩ rfl dX2_laidOrNone_6 (fun H locs hR hS => ?_)
  refine lv_if_eq (tgt := 26) hx hb dX2_laidOrNone_9 (by decide) (fun hc => ?_) (fun hc => ?_)
  · have hf := mm_if1 hc hf
    refine lv_iconst (v := -1) hx hb dX2_laidOrNone_26 (by decide) ?_
    exact mm_ire C hR hS hr ((Option.some.inj hf)) rfl dX2_laidOrNone_27
  · have hf := mm_if0 hc hf
    refine lv_aload_n hx hb dX2_laidOrNone_12 rfl (lv_at hl 0 rfl) ?_
    obtain ⟨v4, ev4, hf⟩ := mm_bd hf
    refine mm_getR C hR fs_X2_25 ev4 dX2_laidOrNone_13 ?_
    refine lv_iload_n hx hb dX2_laidOrNone_16 rfl (lv_at hl 2 rfl) ?_
    refine lv_bipush (v := 12) hx hb dX2_laidOrNone_17 (by decide) ?_
    refine lv_imul hx hb dX2_laidOrNone_19 ?_
    refine lv_iload_n hx hb dX2_laidOrNone_20 rfl (lv_at hl 1 rfl) ?_
    refine lv_iadd hx hb dX2_laidOrNone_21 ?_
    obtain ⟨v5, ev5, hf⟩ := mm_bd hf
    refine mm_iald C hR ev5 dX2_laidOrNone_22 ?_
    refine lv_goto (tgt := 27) hx hb dX2_laidOrNone_23 (by decide) ?_
    exact mm_ire C hR hS hr ((Option.some.inj hf)) rfl dX2_laidOrNone_27
def ff_X2_isLaid (M : mm_M) (x0 : Nat) (x1 : Int32) (x2 : Int32) : Option Int32 := Option.bind (mm_ck 2 M x0) fun u1 => Option.bind (ff_X2_laidOrNone M x0 x1 x2) fun v2 => if v2 = (-1 : Int32) then (some (0 : Int32)) else (some (1 : Int32))
def rm_X2_isLaid : Room := { frames := 2, cells := 0, slots := 0, locals := 44 }
set_option maxHeartbeats 4000000 in
set_option maxRecDepth 100000 in
theorem jj_X2_isLaid (l : Launch) (g : mm_G) (A : Nat → Prop) (M : mm_M) (x0 : Nat) (x1 : Int32) (x2 : Int32) (r : Int32) (hf : ff_X2_isLaid M x0 x1 x2 = some r) : Met l yX2_isLaid (mm_ws yX2_isLaid cX2_isLaid 3 (Option.some Jvm.ClassFile.FieldType.boolean)) rm_X2_isLaid (va_Pc [.ref x0, .int x1, .int x2] (mm_B g A M)) (mm_Ti g A r M) 0 0 A := by
  refine mm_met (g := g) (lv := [(0, .ref x0), (1, .int x1), (2, .int x2)]) (fun U h => h.2) (by decide +kernel) (Nat.le_of_ble_eq_true rfl) rfl ?_
  intro p e s m args below meth c ls C hr hnm hB hl
  obtain ⟨hR, hK⟩ := hB
  have hx := C.1
  have hb := C.2.1
  suffices hmain : ∀ (H : Heap) (locs : List Loc), mm_R g A M H → va_S A s.heap H locs → W p l e rm_X2_isLaid s m args below meth c H locs 0 0 (MQ below (mm_Ti g A r M) args s 0 0 A) (F0 m 0 ls []) from hmain _ _ hR va_S.rf
  clear hR
  intro H locs hR hS
  unfold ff_X2_isLaid at hf
  refine lv_aload_n hx hb dX2_isLaid_0 rfl (lv_at hl 0 rfl) ?_
  refine lv_iload_n hx hb dX2_isLaid_1 rfl (lv_at hl 1 rfl) ?_
  refine lv_iload_n hx hb dX2_isLaid_2 rfl (lv_at hl 2 rfl) ?_
  obtain ⟨u1, eu1, hf⟩ := mm_bd hf
  obtain ⟨v2, ev2, hf⟩ := mm_bd hf
  refine mm_callVi (As := [.int x1, .int x2]) (rest := []) C hR hS hl.1 vs_X2_56 eu1 (jj_X2_laidOrNone l g A M x0 x1 x2 v2 ev2) ⟨rfl, rfl, (Nat.le_of_ble_eq_true rfl), (Nat.le_of_ble_eq_true rfl)⟩ rfl (Nat.le_of_ble_eq_true rfl) ⟨Nat.zero_le _, Nat.zero_le _⟩ rfl dX2_isLaid_3 (fun H locs hR hS => ?_)
  refine lv_iconst (v := -1) hx hb dX2_isLaid_6 (by decide) ?_
  refine lv_icmp_eq (tgt := 14) hx hb dX2_isLaid_7 (by decide) (fun hc => ?_) (fun hc => ?_)
  · have hf := mm_if1 hc hf
    refine lv_iconst (v := 0) hx hb dX2_isLaid_14 (by decide) ?_
    exact mm_zre C hR hS hr (Or.inl rfl) ((Option.some.inj hf)) rfl dX2_isLaid_15
  · have hf := mm_if0 hc hf
    refine lv_iconst (v := 1) hx hb dX2_isLaid_10 (by decide) ?_
    refine lv_goto (tgt := 15) hx hb dX2_isLaid_11 (by decide) ?_
    exact mm_zre C hR hS hr (Or.inr rfl) ((Option.some.inj hf)) rfl dX2_isLaid_15
def ff_X2_differenceAt (M : mm_M) (x0 : Nat) (x1 : Int32) (x2 : Int32) : Option Int32 := Option.bind (mm_ck 2 M x0) fun u1 => Option.bind (ff_X2_isLaid M x0 x1 x2) fun v2 => if v2 = (0 : Int32) then (some (0 : Int32)) else (Option.bind (mm_gR 2 M x0 0) fun v3 => Option.bind (mm_ck 1 M v3) fun u4 => Option.bind (ff_X1_wantedAt M v3 x1 x2) fun v5 => Option.bind (mm_ck 2 M x0) fun u6 => Option.bind (ff_X2_laidOrNone M x0 x1 x2) fun v7 => some (mm_ab (v5 - v7)))
def rm_X2_differenceAt : Room := { frames := 3, cells := 0, slots := 0, locals := 69 }
set_option maxHeartbeats 4000000 in
set_option maxRecDepth 100000 in
theorem jj_X2_differenceAt (l : Launch) (g : mm_G) (A : Nat → Prop) (M : mm_M) (x0 : Nat) (x1 : Int32) (x2 : Int32) (r : Int32) (hf : ff_X2_differenceAt M x0 x1 x2 = some r) : Met l yX2_differenceAt (mm_ws yX2_differenceAt cX2_differenceAt 3 (Option.some Jvm.ClassFile.FieldType.int)) rm_X2_differenceAt (va_Pc [.ref x0, .int x1, .int x2] (mm_B g A M)) (mm_Ti g A r M) 0 0 A := by
  refine mm_met (g := g) (lv := [(0, .ref x0), (1, .int x1), (2, .int x2)]) (fun U h => h.2) (by decide +kernel) (Nat.le_of_ble_eq_true rfl) rfl ?_
  intro p e s m args below meth c ls C hr hnm hB hl
  obtain ⟨hR, hK⟩ := hB
  have hx := C.1
  have hb := C.2.1
  suffices hmain : ∀ (H : Heap) (locs : List Loc), mm_R g A M H → va_S A s.heap H locs → W p l e rm_X2_differenceAt s m args below meth c H locs 0 0 (MQ below (mm_Ti g A r M) args s 0 0 A) (F0 m 0 ls []) from hmain _ _ hR va_S.rf
  clear hR
  intro H locs hR hS
  unfold ff_X2_differenceAt at hf
  refine lv_aload_n hx hb dX2_differenceAt_0 rfl (lv_at hl 0 rfl) ?_
  refine lv_iload_n hx hb dX2_differenceAt_1 rfl (lv_at hl 1 rfl) ?_
  refine lv_iload_n hx hb dX2_differenceAt_2 rfl (lv_at hl 2 rfl) ?_
  obtain ⟨u1, eu1, hf⟩ := mm_bd hf
  obtain ⟨v2, ev2, hf⟩ := mm_bd hf
  refine mm_callVi (As := [.int x1, .int x2]) (rest := []) C hR hS hl.1 vs_X2_60 eu1 (jj_X2_isLaid l g A M x0 x1 x2 v2 ev2) ⟨rfl, rfl, (Nat.le_of_ble_eq_true rfl), (Nat.le_of_ble_eq_true rfl)⟩ rfl (Nat.le_of_ble_eq_true rfl) ⟨Nat.zero_le _, Nat.zero_le _⟩ rfl dX2_differenceAt_3 (fun H locs hR hS => ?_)
  refine lv_if_eq (tgt := 31) hx hb dX2_differenceAt_6 (by decide) (fun hc => ?_) (fun hc => ?_)
  · have hf := mm_if1 hc hf
    refine lv_iconst (v := 0) hx hb dX2_differenceAt_31 (by decide) ?_
    exact mm_ire C hR hS hr ((Option.some.inj hf)) rfl dX2_differenceAt_32
  · have hf := mm_if0 hc hf
    refine lv_aload_n hx hb dX2_differenceAt_9 rfl (lv_at hl 0 rfl) ?_
    obtain ⟨v3, ev3, hf⟩ := mm_bd hf
    refine mm_getR C hR fs_X2_12 ev3 dX2_differenceAt_10 ?_
    refine lv_iload_n hx hb dX2_differenceAt_13 rfl (lv_at hl 1 rfl) ?_
    refine lv_iload_n hx hb dX2_differenceAt_14 rfl (lv_at hl 2 rfl) ?_
    obtain ⟨u4, eu4, hf⟩ := mm_bd hf
    obtain ⟨v5, ev5, hf⟩ := mm_bd hf
    refine mm_callVi (As := [.int x1, .int x2]) (rest := []) C hR hS hl.1 vs_X2_63 eu4 (jj_X1_wantedAt l g A M v3 x1 x2 v5 ev5) ⟨rfl, rfl, (Nat.le_of_ble_eq_true rfl), (Nat.le_of_ble_eq_true rfl)⟩ rfl (Nat.le_of_ble_eq_true rfl) ⟨Nat.zero_le _, Nat.zero_le _⟩ rfl dX2_differenceAt_15 (fun H locs hR hS => ?_)
    refine lv_aload_n hx hb dX2_differenceAt_18 rfl (lv_at hl 0 rfl) ?_
    refine lv_iload_n hx hb dX2_differenceAt_19 rfl (lv_at hl 1 rfl) ?_
    refine lv_iload_n hx hb dX2_differenceAt_20 rfl (lv_at hl 2 rfl) ?_
    obtain ⟨u6, eu6, hf⟩ := mm_bd hf
    obtain ⟨v7, ev7, hf⟩ := mm_bd hf
    refine mm_callVi (As := [.int x1, .int x2]) (rest := [.int v5]) C hR hS hl.1 vs_X2_56 eu6 (jj_X2_laidOrNone l g A M x0 x1 x2 v7 ev7) ⟨rfl, rfl, (Nat.le_of_ble_eq_true rfl), (Nat.le_of_ble_eq_true rfl)⟩ rfl (Nat.le_of_ble_eq_true rfl) ⟨Nat.zero_le _, Nat.zero_le _⟩ rfl dX2_differenceAt_21 (fun H locs hR hS => ?_)
    refine lv_isub hx hb dX2_differenceAt_24 ?_
    refine mm_abs C hl.1 mw_334 mw_335 mw_9 mc_abs (Nat.le_of_ble_eq_true rfl) (Nat.le_of_ble_eq_true rfl) ⟨Nat.zero_le _, Nat.zero_le _⟩ dX2_differenceAt_25 ?_
    refine lv_goto (tgt := 32) hx hb dX2_differenceAt_28 (by decide) ?_
    exact mm_ire C hR hS hr ((Option.some.inj hf)) rfl dX2_differenceAt_32
def ff_X2_sumOfDifferences_l17  (M : mm_M) (x0 : Nat) (x2 : Int32) (x1 : Int32) (x3 : Int32) : Option ((Int32 × Int32) ⊕ (Int32 × Int32)) := Option.bind (mm_gR 2 M x0 0) fun v3 => Option.bind (mm_gI 1 M v3 4) fun v4 => if v4 ≤ x3 then (some (.inr (x1, x3))) else (Option.bind (mm_ck 2 M x0) fun u5 => Option.bind (ff_X2_differenceAt M x0 x3 x2) fun v6 => some (.inl ((x1 + v6), (x3 + (1 : Int32)))))
def ff_X2_sumOfDifferences_l4  (M : mm_M) (x0 : Nat) (x1 : Int32) (x2 : Int32) : Option ((Int32 × Int32) ⊕ (Int32 × Int32)) := Option.bind (mm_gR 2 M x0 0) fun v1 => Option.bind (mm_gI 1 M v1 5) fun v2 => if v2 ≤ x2 then (some (.inr (x1, x2))) else (Option.bind (mm_it (mm_u2 (ff_X2_sumOfDifferences_l17 M x0 x2)) mm_fu (x1, (0 : Int32))) fun e7 => mm_u2 (fun x1_8 x3_9 => some (.inl (x1_8, (x2 + (1 : Int32))))) e7)
def ff_X2_sumOfDifferences (M : mm_M) (x0 : Nat) : Option Int32 := Option.bind (mm_it (mm_u2 (ff_X2_sumOfDifferences_l4 M x0)) mm_fu ((0 : Int32), (0 : Int32))) fun e10 => mm_u2 (fun x1_11 x2_12 => some x1_11) e10
def rm_X2_sumOfDifferences : Room := { frames := 4, cells := 0, slots := 0, locals := 91 }
set_option maxHeartbeats 4000000 in
set_option maxRecDepth 100000 in
theorem jj_X2_sumOfDifferences (l : Launch) (g : mm_G) (A : Nat → Prop) (M : mm_M) (x0 : Nat) (r : Int32) (hf : ff_X2_sumOfDifferences M x0 = some r) : Met l yX2_sumOfDifferences (mm_ws yX2_sumOfDifferences cX2_sumOfDifferences 4 (Option.some Jvm.ClassFile.FieldType.int)) rm_X2_sumOfDifferences (va_Pc [.ref x0] (mm_B g A M)) (mm_Ti g A r M) 0 0 A := by
  refine mm_met (g := g) (lv := [(0, .ref x0)]) (fun U h => h.2) (by decide +kernel) (Nat.le_of_ble_eq_true rfl) rfl ?_
  intro p e s m args below meth c ls C hr hnm hB hl
  obtain ⟨hR, hK⟩ := hB
  have hx := C.1
  have hb := C.2.1
  suffices hmain : ∀ (H : Heap) (locs : List Loc), mm_R g A M H → va_S A s.heap H locs → W p l e rm_X2_sumOfDifferences s m args below meth c H locs 0 0 (MQ below (mm_Ti g A r M) args s 0 0 A) (F0 m 0 ls []) from hmain _ _ hR va_S.rf
  clear hR
  intro H locs hR hS
  have L17 : ∀ (x0 : Nat) (x2 : Int32) (e1 : Int32 × Int32) (hX : ∀ (x1 : Int32) (x3 : Int32), e1 = (x1, x3) → ∀ (H : Heap) (locs : List Loc) (ls : Array Slot), mm_R g A M H → va_S A s.heap H locs → lv_has ls 4 [(0, .ref x0), (1, .int x1), (2, .int x2)] → W p l e rm_X2_sumOfDifferences s m args below meth c H locs 0 0 (MQ below (mm_Ti g A r M) args s 0 0 A) (F0 m 43 ls [])) (n : Nat) (x1 : Int32) (x3 : Int32), mm_it (mm_u2 (ff_X2_sumOfDifferences_l17 M x0 x2)) n (x1, x3) = some e1 → ∀ (H : Heap) (locs : List Loc) (ls : Array Slot), mm_R g A M H → va_S A s.heap H locs → lv_has ls 4 [(0, .ref x0), (1, .int x1), (2, .int x2), (3, .int x3)] → W p l e rm_X2_sumOfDifferences s m args below meth c H locs 0 0 (MQ below (mm_Ti g A r M) args s 0 0 A) (F0 m 17 ls []) := by
    intro x0 x2 e1 hX n x1 x3 hit
    refine mm_itW (Hd := fun st => ∀ (H : Heap) (locs : List Loc) (ls : Array Slot), mm_R g A M H → va_S A s.heap H locs → lv_has ls 4 [(0, .ref x0), (1, .int st.1), (2, .int x2), (3, .int st.2)] → W p l e rm_X2_sumOfDifferences s m args below meth c H locs 0 0 (MQ below (mm_Ti g A r M) args s 0 0 A) (F0 m 17 ls [])) (fun st y hf hin hout => ?_) n (x1, x3) hit
    obtain ⟨x1, x3⟩ := st
    have hf := mm_u2e hf
    intro H locs ls hR hS hl
    unfold ff_X2_sumOfDifferences_l17 at hf
    refine lv_iload_n hx hb dX2_sumOfDifferences_17 rfl (lv_at hl 3 rfl) ?_
    refine lv_aload_n hx hb dX2_sumOfDifferences_18 rfl (lv_at hl 0 rfl) ?_
    obtain ⟨v3, ev3, hf⟩ := mm_bd hf
    refine mm_getR C hR fs_X2_12 ev3 dX2_sumOfDifferences_19 ?_
    obtain ⟨v4, ev4, hf⟩ := mm_bd hf
    refine mm_getI C hR fs_X2_75 ev4 dX2_sumOfDifferences_22 ?_
    refine lv_icmp_ge (tgt := 43) hx hb dX2_sumOfDifferences_25 (by decide) (fun hc => ?_) (fun hc => ?_)
    · have hf := mm_if1 hc hf
      exact hX _ _ (hout _ (Option.some.inj hf).symm).symm H locs ls hR hS (lv_sub hl [0, 1, 2] rfl)
    · have hf := mm_if0 hc hf
      refine lv_iload_n hx hb dX2_sumOfDifferences_28 rfl (lv_at hl 1 rfl) ?_
      refine lv_aload_n hx hb dX2_sumOfDifferences_29 rfl (lv_at hl 0 rfl) ?_
      refine lv_iload_n hx hb dX2_sumOfDifferences_30 rfl (lv_at hl 3 rfl) ?_
      refine lv_iload_n hx hb dX2_sumOfDifferences_31 rfl (lv_at hl 2 rfl) ?_
      obtain ⟨u5, eu5, hf⟩ := mm_bd hf
      obtain ⟨v6, ev6, hf⟩ := mm_bd hf
      refine mm_callVi (As := [.int x3, .int x2]) (rest := [.int x1]) C hR hS hl.1 vs_X2_78 eu5 (jj_X2_differenceAt l g A M x0 x3 x2 v6 ev6) ⟨rfl, rfl, (Nat.le_of_ble_eq_true rfl), (Nat.le_of_ble_eq_true rfl)⟩ rfl (Nat.le_of_ble_eq_true rfl) ⟨Nat.zero_le _, Nat.zero_le _⟩ rfl dX2_sumOfDifferences_32 (fun H locs hR hS => ?_)
      refine lv_iadd hx hb dX2_sumOfDifferences_35 ?_
      refine lv_istore_n (lv' := [(1, .int (x1 + v6)), (0, .ref x0), (2, .int x2), (3, .int x3)]) hx hb dX2_sumOfDifferences_36 rfl hl (by decide) rfl (fun ls hl => ?_)
      refine lv_iinc (v := (x3 + (1 : Int32))) (lv' := [(3, .int (x3 + (1 : Int32))), (1, .int (x1 + v6)), (0, .ref x0), (2, .int x2)]) hx hb dX2_sumOfDifferences_37 hl (k := 3) rfl rfl (by decide) rfl (fun ls hl => ?_)
      refine lv_goto (tgt := 17) hx hb dX2_sumOfDifferences_40 (by decide) ?_
      exact hin _ (Option.some.inj hf).symm H locs ls hR hS (lv_sub hl [2, 1, 3, 0] rfl)
  have L4 : ∀ (x0 : Nat) (e1 : Int32 × Int32) (hX : ∀ (x1 : Int32) (x2 : Int32), e1 = (x1, x2) → ∀ (H : Heap) (locs : List Loc) (ls : Array Slot), mm_R g A M H → va_S A s.heap H locs → lv_has ls 4 [(1, .int x1)] → W p l e rm_X2_sumOfDifferences s m args below meth c H locs 0 0 (MQ below (mm_Ti g A r M) args s 0 0 A) (F0 m 49 ls [])) (n : Nat) (x1 : Int32) (x2 : Int32), mm_it (mm_u2 (ff_X2_sumOfDifferences_l4 M x0)) n (x1, x2) = some e1 → ∀ (H : Heap) (locs : List Loc) (ls : Array Slot), mm_R g A M H → va_S A s.heap H locs → lv_has ls 4 [(0, .ref x0), (1, .int x1), (2, .int x2)] → W p l e rm_X2_sumOfDifferences s m args below meth c H locs 0 0 (MQ below (mm_Ti g A r M) args s 0 0 A) (F0 m 4 ls []) := by
    intro x0 e1 hX n x1 x2 hit
    refine mm_itW (Hd := fun st => ∀ (H : Heap) (locs : List Loc) (ls : Array Slot), mm_R g A M H → va_S A s.heap H locs → lv_has ls 4 [(0, .ref x0), (1, .int st.1), (2, .int st.2)] → W p l e rm_X2_sumOfDifferences s m args below meth c H locs 0 0 (MQ below (mm_Ti g A r M) args s 0 0 A) (F0 m 4 ls [])) (fun st y hf hin hout => ?_) n (x1, x2) hit
    obtain ⟨x1, x2⟩ := st
    have hf := mm_u2e hf
    intro H locs ls hR hS hl
    unfold ff_X2_sumOfDifferences_l4 at hf
    refine lv_iload_n hx hb dX2_sumOfDifferences_4 rfl (lv_at hl 2 rfl) ?_
    refine lv_aload_n hx hb dX2_sumOfDifferences_5 rfl (lv_at hl 0 rfl) ?_
    obtain ⟨v1, ev1, hf⟩ := mm_bd hf
    refine mm_getR C hR fs_X2_12 ev1 dX2_sumOfDifferences_6 ?_
    obtain ⟨v2, ev2, hf⟩ := mm_bd hf
    refine mm_getI C hR fs_X2_72 ev2 dX2_sumOfDifferences_9 ?_
    refine lv_icmp_ge (tgt := 49) hx hb dX2_sumOfDifferences_12 (by decide) (fun hc => ?_) (fun hc => ?_)
    · have hf := mm_if1 hc hf
      exact hX _ _ (hout _ (Option.some.inj hf).symm).symm H locs ls hR hS (lv_sub hl [1] rfl)
    · have hf := mm_if0 hc hf
      refine lv_iconst (v := 0) hx hb dX2_sumOfDifferences_15 (by decide) ?_
      refine lv_istore_n (lv' := [(3, .int (0 : Int32)), (0, .ref x0), (1, .int x1), (2, .int x2)]) hx hb dX2_sumOfDifferences_16 rfl hl (by decide) rfl (fun ls hl => ?_)
      obtain ⟨e7, he7, hf⟩ := mm_bd hf
      refine L17 x0 x2 e7 (fun x1_8 x3_9 he => ?_) _ x1 (0 : Int32) he7 H locs ls hR hS (lv_sub hl [1, 2, 3, 0] rfl)
      subst he
      intro H locs ls hR hS hl
      have hf := mm_u2e hf
      refine lv_iinc (v := (x2 + (1 : Int32))) (lv' := [(2, .int (x2 + (1 : Int32))), (0, .ref x0), (1, .int x1_8)]) hx hb dX2_sumOfDifferences_43 hl (k := 2) rfl rfl (by decide) rfl (fun ls hl => ?_)
      refine lv_goto (tgt := 4) hx hb dX2_sumOfDifferences_46 (by decide) ?_
      exact hin _ (Option.some.inj hf).symm H locs ls hR hS (lv_sub hl [1, 2, 0] rfl)
  unfold ff_X2_sumOfDifferences at hf
  refine lv_iconst (v := 0) hx hb dX2_sumOfDifferences_0 (by decide) ?_
  refine lv_istore_n (lv' := [(1, .int (0 : Int32)), (0, .ref x0)]) hx hb dX2_sumOfDifferences_1 rfl hl (by decide) rfl (fun ls hl => ?_)
  refine lv_iconst (v := 0) hx hb dX2_sumOfDifferences_2 (by decide) ?_
  refine lv_istore_n (lv' := [(2, .int (0 : Int32)), (1, .int (0 : Int32)), (0, .ref x0)]) hx hb dX2_sumOfDifferences_3 rfl hl (by decide) rfl (fun ls hl => ?_)
  obtain ⟨e10, he10, hf⟩ := mm_bd hf
  refine L4 x0 e10 (fun x1_11 x2_12 he => ?_) _ (0 : Int32) (0 : Int32) he10 H locs ls hR hS (lv_sub hl [2, 1, 0] rfl)
  subst he
  intro H locs ls hR hS hl
  have hf := mm_u2e hf
  refine lv_iload_n hx hb dX2_sumOfDifferences_49 rfl (lv_at hl 0 rfl) ?_
  exact mm_ire C hR hS hr ((Option.some.inj hf)) rfl dX2_sumOfDifferences_50
def ff_X2_greatestDifference_l17  (M : mm_M) (x0 : Nat) (x2 : Int32) (x1 : Int32) (x3 : Int32) : Option ((Int32 × Int32) ⊕ (Int32 × Int32)) := Option.bind (mm_gR 2 M x0 0) fun v3 => Option.bind (mm_gI 1 M v3 4) fun v4 => if v4 ≤ x3 then (some (.inr (x1, x3))) else (Option.bind (mm_ck 2 M x0) fun u5 => Option.bind (ff_X2_differenceAt M x0 x3 x2) fun v6 => some (.inl ((mm_mx x1 v6), (x3 + (1 : Int32)))))
def ff_X2_greatestDifference_l4  (M : mm_M) (x0 : Nat) (x1 : Int32) (x2 : Int32) : Option ((Int32 × Int32) ⊕ (Int32 × Int32)) := Option.bind (mm_gR 2 M x0 0) fun v1 => Option.bind (mm_gI 1 M v1 5) fun v2 => if v2 ≤ x2 then (some (.inr (x1, x2))) else (Option.bind (mm_it (mm_u2 (ff_X2_greatestDifference_l17 M x0 x2)) mm_fu (x1, (0 : Int32))) fun e7 => mm_u2 (fun x1_8 x3_9 => some (.inl (x1_8, (x2 + (1 : Int32))))) e7)
def ff_X2_greatestDifference (M : mm_M) (x0 : Nat) : Option Int32 := Option.bind (mm_it (mm_u2 (ff_X2_greatestDifference_l4 M x0)) mm_fu ((0 : Int32), (0 : Int32))) fun e10 => mm_u2 (fun x1_11 x2_12 => some x1_11) e10
def rm_X2_greatestDifference : Room := { frames := 4, cells := 0, slots := 0, locals := 91 }
set_option maxHeartbeats 4000000 in
set_option maxRecDepth 100000 in
theorem jj_X2_greatestDifference (l : Launch) (g : mm_G) (A : Nat → Prop) (M : mm_M) (x0 : Nat) (r : Int32) (hf : ff_X2_greatestDifference M x0 = some r) : Met l yX2_greatestDifference (mm_ws yX2_greatestDifference cX2_greatestDifference 4 (Option.some Jvm.ClassFile.FieldType.int)) rm_X2_greatestDifference (va_Pc [.ref x0] (mm_B g A M)) (mm_Ti g A r M) 0 0 A := by
  refine mm_met (g := g) (lv := [(0, .ref x0)]) (fun U h => h.2) (by decide +kernel) (Nat.le_of_ble_eq_true rfl) rfl ?_
  intro p e s m args below meth c ls C hr hnm hB hl
  obtain ⟨hR, hK⟩ := hB
  have hx := C.1
  have hb := C.2.1
  suffices hmain : ∀ (H : Heap) (locs : List Loc), mm_R g A M H → va_S A s.heap H locs → W p l e rm_X2_greatestDifference s m args below meth c H locs 0 0 (MQ below (mm_Ti g A r M) args s 0 0 A) (F0 m 0 ls []) from hmain _ _ hR va_S.rf
  clear hR
  intro H locs hR hS
  have L17 : ∀ (x0 : Nat) (x2 : Int32) (e1 : Int32 × Int32) (hX : ∀ (x1 : Int32) (x3 : Int32), e1 = (x1, x3) → ∀ (H : Heap) (locs : List Loc) (ls : Array Slot), mm_R g A M H → va_S A s.heap H locs → lv_has ls 4 [(0, .ref x0), (1, .int x1), (2, .int x2)] → W p l e rm_X2_greatestDifference s m args below meth c H locs 0 0 (MQ below (mm_Ti g A r M) args s 0 0 A) (F0 m 45 ls [])) (n : Nat) (x1 : Int32) (x3 : Int32), mm_it (mm_u2 (ff_X2_greatestDifference_l17 M x0 x2)) n (x1, x3) = some e1 → ∀ (H : Heap) (locs : List Loc) (ls : Array Slot), mm_R g A M H → va_S A s.heap H locs → lv_has ls 4 [(0, .ref x0), (1, .int x1), (2, .int x2), (3, .int x3)] → W p l e rm_X2_greatestDifference s m args below meth c H locs 0 0 (MQ below (mm_Ti g A r M) args s 0 0 A) (F0 m 17 ls []) := by
    intro x0 x2 e1 hX n x1 x3 hit
    refine mm_itW (Hd := fun st => ∀ (H : Heap) (locs : List Loc) (ls : Array Slot), mm_R g A M H → va_S A s.heap H locs → lv_has ls 4 [(0, .ref x0), (1, .int st.1), (2, .int x2), (3, .int st.2)] → W p l e rm_X2_greatestDifference s m args below meth c H locs 0 0 (MQ below (mm_Ti g A r M) args s 0 0 A) (F0 m 17 ls [])) (fun st y hf hin hout => ?_) n (x1, x3) hit
    obtain ⟨x1, x3⟩ := st
    have hf := mm_u2e hf
    intro H locs ls hR hS hl
    unfold ff_X2_greatestDifference_l17 at hf
    refine lv_iload_n hx hb dX2_greatestDifference_17 rfl (lv_at hl 3 rfl) ?_
    refine lv_aload_n hx hb dX2_greatestDifference_18 rfl (lv_at hl 0 rfl) ?_
    obtain ⟨v3, ev3, hf⟩ := mm_bd hf
    refine mm_getR C hR fs_X2_12 ev3 dX2_greatestDifference_19 ?_
    obtain ⟨v4, ev4, hf⟩ := mm_bd hf
    refine mm_getI C hR fs_X2_75 ev4 dX2_greatestDifference_22 ?_
    refine lv_icmp_ge (tgt := 45) hx hb dX2_greatestDifference_25 (by decide) (fun hc => ?_) (fun hc => ?_)
    · have hf := mm_if1 hc hf
      exact hX _ _ (hout _ (Option.some.inj hf).symm).symm H locs ls hR hS (lv_sub hl [0, 1, 2] rfl)
    · have hf := mm_if0 hc hf
      refine lv_iload_n hx hb dX2_greatestDifference_28 rfl (lv_at hl 1 rfl) ?_
      refine lv_aload_n hx hb dX2_greatestDifference_29 rfl (lv_at hl 0 rfl) ?_
      refine lv_iload_n hx hb dX2_greatestDifference_30 rfl (lv_at hl 3 rfl) ?_
      refine lv_iload_n hx hb dX2_greatestDifference_31 rfl (lv_at hl 2 rfl) ?_
      obtain ⟨u5, eu5, hf⟩ := mm_bd hf
      obtain ⟨v6, ev6, hf⟩ := mm_bd hf
      refine mm_callVi (As := [.int x3, .int x2]) (rest := [.int x1]) C hR hS hl.1 vs_X2_78 eu5 (jj_X2_differenceAt l g A M x0 x3 x2 v6 ev6) ⟨rfl, rfl, (Nat.le_of_ble_eq_true rfl), (Nat.le_of_ble_eq_true rfl)⟩ rfl (Nat.le_of_ble_eq_true rfl) ⟨Nat.zero_le _, Nat.zero_le _⟩ rfl dX2_greatestDifference_32 (fun H locs hR hS => ?_)
      refine mm_max C hl.1 mw_372 mw_373 mw_9 mc_max (Nat.le_of_ble_eq_true rfl) (Nat.le_of_ble_eq_true rfl) ⟨Nat.zero_le _, Nat.zero_le _⟩ dX2_greatestDifference_35 ?_
      refine lv_istore_n (lv' := [(1, .int (mm_mx x1 v6)), (0, .ref x0), (2, .int x2), (3, .int x3)]) hx hb dX2_greatestDifference_38 rfl hl (by decide) rfl (fun ls hl => ?_)
      refine lv_iinc (v := (x3 + (1 : Int32))) (lv' := [(3, .int (x3 + (1 : Int32))), (1, .int (mm_mx x1 v6)), (0, .ref x0), (2, .int x2)]) hx hb dX2_greatestDifference_39 hl (k := 3) rfl rfl (by decide) rfl (fun ls hl => ?_)
      refine lv_goto (tgt := 17) hx hb dX2_greatestDifference_42 (by decide) ?_
      exact hin _ (Option.some.inj hf).symm H locs ls hR hS (lv_sub hl [2, 1, 3, 0] rfl)
  have L4 : ∀ (x0 : Nat) (e1 : Int32 × Int32) (hX : ∀ (x1 : Int32) (x2 : Int32), e1 = (x1, x2) → ∀ (H : Heap) (locs : List Loc) (ls : Array Slot), mm_R g A M H → va_S A s.heap H locs → lv_has ls 4 [(1, .int x1)] → W p l e rm_X2_greatestDifference s m args below meth c H locs 0 0 (MQ below (mm_Ti g A r M) args s 0 0 A) (F0 m 51 ls [])) (n : Nat) (x1 : Int32) (x2 : Int32), mm_it (mm_u2 (ff_X2_greatestDifference_l4 M x0)) n (x1, x2) = some e1 → ∀ (H : Heap) (locs : List Loc) (ls : Array Slot), mm_R g A M H → va_S A s.heap H locs → lv_has ls 4 [(0, .ref x0), (1, .int x1), (2, .int x2)] → W p l e rm_X2_greatestDifference s m args below meth c H locs 0 0 (MQ below (mm_Ti g A r M) args s 0 0 A) (F0 m 4 ls []) := by
    intro x0 e1 hX n x1 x2 hit
    refine mm_itW (Hd := fun st => ∀ (H : Heap) (locs : List Loc) (ls : Array Slot), mm_R g A M H → va_S A s.heap H locs → lv_has ls 4 [(0, .ref x0), (1, .int st.1), (2, .int st.2)] → W p l e rm_X2_greatestDifference s m args below meth c H locs 0 0 (MQ below (mm_Ti g A r M) args s 0 0 A) (F0 m 4 ls [])) (fun st y hf hin hout => ?_) n (x1, x2) hit
    obtain ⟨x1, x2⟩ := st
    have hf := mm_u2e hf
    intro H locs ls hR hS hl
    unfold ff_X2_greatestDifference_l4 at hf
    refine lv_iload_n hx hb dX2_greatestDifference_4 rfl (lv_at hl 2 rfl) ?_
    refine lv_aload_n hx hb dX2_greatestDifference_5 rfl (lv_at hl 0 rfl) ?_
    obtain ⟨v1, ev1, hf⟩ := mm_bd hf
    refine mm_getR C hR fs_X2_12 ev1 dX2_greatestDifference_6 ?_
    obtain ⟨v2, ev2, hf⟩ := mm_bd hf
    refine mm_getI C hR fs_X2_72 ev2 dX2_greatestDifference_9 ?_
    refine lv_icmp_ge (tgt := 51) hx hb dX2_greatestDifference_12 (by decide) (fun hc => ?_) (fun hc => ?_)
    · have hf := mm_if1 hc hf
      exact hX _ _ (hout _ (Option.some.inj hf).symm).symm H locs ls hR hS (lv_sub hl [1] rfl)
    · have hf := mm_if0 hc hf
      refine lv_iconst (v := 0) hx hb dX2_greatestDifference_15 (by decide) ?_
      refine lv_istore_n (lv' := [(3, .int (0 : Int32)), (0, .ref x0), (1, .int x1), (2, .int x2)]) hx hb dX2_greatestDifference_16 rfl hl (by decide) rfl (fun ls hl => ?_)
      obtain ⟨e7, he7, hf⟩ := mm_bd hf
      refine L17 x0 x2 e7 (fun x1_8 x3_9 he => ?_) _ x1 (0 : Int32) he7 H locs ls hR hS (lv_sub hl [1, 2, 3, 0] rfl)
      subst he
      intro H locs ls hR hS hl
      have hf := mm_u2e hf
      refine lv_iinc (v := (x2 + (1 : Int32))) (lv' := [(2, .int (x2 + (1 : Int32))), (0, .ref x0), (1, .int x1_8)]) hx hb dX2_greatestDifference_45 hl (k := 2) rfl rfl (by decide) rfl (fun ls hl => ?_)
      refine lv_goto (tgt := 4) hx hb dX2_greatestDifference_48 (by decide) ?_
      exact hin _ (Option.some.inj hf).symm H locs ls hR hS (lv_sub hl [1, 2, 0] rfl)
  unfold ff_X2_greatestDifference at hf
  refine lv_iconst (v := 0) hx hb dX2_greatestDifference_0 (by decide) ?_
  refine lv_istore_n (lv' := [(1, .int (0 : Int32)), (0, .ref x0)]) hx hb dX2_greatestDifference_1 rfl hl (by decide) rfl (fun ls hl => ?_)
  refine lv_iconst (v := 0) hx hb dX2_greatestDifference_2 (by decide) ?_
  refine lv_istore_n (lv' := [(2, .int (0 : Int32)), (1, .int (0 : Int32)), (0, .ref x0)]) hx hb dX2_greatestDifference_3 rfl hl (by decide) rfl (fun ls hl => ?_)
  obtain ⟨e10, he10, hf⟩ := mm_bd hf
  refine L4 x0 e10 (fun x1_11 x2_12 he => ?_) _ (0 : Int32) (0 : Int32) he10 H locs ls hR hS (lv_sub hl [2, 1, 0] rfl)
  subst he
  intro H locs ls hR hS hl
  have hf := mm_u2e hf
  refine lv_iload_n hx hb dX2_greatestDifference_51 rfl (lv_at hl 0 rfl) ?_
  exact mm_ire C hR hS hr ((Option.some.inj hf)) rfl dX2_greatestDifference_52
def ff_X2_shadeForOrNone (M : mm_M) (x0 : Nat) (x1 : Int32) (x2 : Int32) : Option Int32 := Option.bind (mm_gR 2 M x0 1) fun v1 => Option.bind (mm_gR 2 M x0 0) fun v2 => Option.bind (mm_ck 1 M v2) fun u3 => Option.bind (ff_X1_wantedAt M v2 x1 x2) fun v4 => Option.bind (mm_ck 3 M v1) fun u5 => Option.bind (ff_X3_nearestShadeOrNone M v1 v4) fun v6 => some v6
def rm_X2_shadeForOrNone : Room := { frames := 3, cells := 0, slots := 0, locals := 75 }
set_option maxHeartbeats 4000000 in
set_option maxRecDepth 100000 in
theorem jj_X2_shadeForOrNone (l : Launch) (g : mm_G) (A : Nat → Prop) (M : mm_M) (x0 : Nat) (x1 : Int32) (x2 : Int32) (r : Int32) (hf : ff_X2_shadeForOrNone M x0 x1 x2 = some r) : Met l yX2_shadeForOrNone (mm_ws yX2_shadeForOrNone cX2_shadeForOrNone 3 (Option.some Jvm.ClassFile.FieldType.int)) rm_X2_shadeForOrNone (va_Pc [.ref x0, .int x1, .int x2] (mm_B g A M)) (mm_Ti g A r M) 0 0 A := by
  refine mm_met (g := g) (lv := [(0, .ref x0), (1, .int x1), (2, .int x2)]) (fun U h => h.2) (by decide +kernel) (Nat.le_of_ble_eq_true rfl) rfl ?_
  intro p e s m args below meth c ls C hr hnm hB hl
  obtain ⟨hR, hK⟩ := hB
  have hx := C.1
  have hb := C.2.1
  suffices hmain : ∀ (H : Heap) (locs : List Loc), mm_R g A M H → va_S A s.heap H locs → W p l e rm_X2_shadeForOrNone s m args below meth c H locs 0 0 (MQ below (mm_Ti g A r M) args s 0 0 A) (F0 m 0 ls []) from hmain _ _ hR va_S.rf
  clear hR
  intro H locs hR hS
  unfold ff_X2_shadeForOrNone at hf
  refine lv_aload_n hx hb dX2_shadeForOrNone_0 rfl (lv_at hl 0 rfl) ?_
  obtain ⟨v1, ev1, hf⟩ := mm_bd hf
  refine mm_getR C hR fs_X2_21 ev1 dX2_shadeForOrNone_1 ?_
  refine lv_aload_n hx hb dX2_shadeForOrNone_4 rfl (lv_at hl 0 rfl) ?_
  obtain ⟨v2, ev2, hf⟩ := mm_bd hf
  refine mm_getR C hR fs_X2_12 ev2 dX2_shadeForOrNone_5 ?_
  refine lv_iload_n hx hb dX2_shadeForOrNone_8 rfl (lv_at hl 1 rfl) ?_
  refine lv_iload_n hx hb dX2_shadeForOrNone_9 rfl (lv_at hl 2 rfl) ?_
  obtain ⟨u3, eu3, hf⟩ := mm_bd hf
  obtain ⟨v4, ev4, hf⟩ := mm_bd hf
  refine mm_callVi (As := [.int x1, .int x2]) (rest := [.ref v1]) C hR hS hl.1 vs_X2_63 eu3 (jj_X1_wantedAt l g A M v2 x1 x2 v4 ev4) ⟨rfl, rfl, (Nat.le_of_ble_eq_true rfl), (Nat.le_of_ble_eq_true rfl)⟩ rfl (Nat.le_of_ble_eq_true rfl) ⟨Nat.zero_le _, Nat.zero_le _⟩ rfl dX2_shadeForOrNone_10 (fun H locs hR hS => ?_)
  obtain ⟨u5, eu5, hf⟩ := mm_bd hf
  obtain ⟨v6, ev6, hf⟩ := mm_bd hf
  refine mm_callVi (As := [.int v4]) (rest := []) C hR hS hl.1 vs_X2_84 eu5 (jj_X3_nearestShadeOrNone l g A M v1 v4 v6 ev6) ⟨rfl, rfl, (Nat.le_of_ble_eq_true rfl), (Nat.le_of_ble_eq_true rfl)⟩ rfl (Nat.le_of_ble_eq_true rfl) ⟨Nat.zero_le _, Nat.zero_le _⟩ rfl dX2_shadeForOrNone_13 (fun H locs hR hS => ?_)
  exact mm_ire C hR hS hr ((Option.some.inj hf)) rfl dX2_shadeForOrNone_16
def ff_X2_putAt (M : mm_M) (x0 : Nat) (x1 : Int32) (x2 : Int32) (x3 : Int32) : Option mm_M := Option.bind (mm_gR 2 M x0 0) fun v1 => Option.bind (mm_ck 1 M v1) fun u2 => Option.bind (ff_X1_hasCell M v1 x1 x2) fun v3 => if v3 = (0 : Int32) then (some M) else (Option.bind (mm_gR 2 M x0 2) fun v4 => Option.bind (mm_sI 0 M v4 ((x2 * (12 : Int32)) + x1) x3) fun M5 => some M5)
def rm_X2_putAt : Room := { frames := 1, cells := 0, slots := 0, locals := 22 }
set_option maxHeartbeats 4000000 in
set_option maxRecDepth 100000 in
theorem jj_X2_putAt (l : Launch) (g : mm_G) (A : Nat → Prop) (M : mm_M) (x0 : Nat) (x1 : Int32) (x2 : Int32) (x3 : Int32) (M2 : mm_M) (hf : ff_X2_putAt M x0 x1 x2 x3 = some M2) : Met l yX2_putAt (mm_ws yX2_putAt cX2_putAt 4 (Option.none : Option Jvm.ClassFile.FieldType)) rm_X2_putAt (va_Pc [.ref x0, .int x1, .int x2, .int x3] (mm_B g A M)) (mm_Tv g A M2) 0 0 A := by
  refine mm_met (g := g) (lv := [(0, .ref x0), (1, .int x1), (2, .int x2), (3, .int x3)]) (fun U h => h.2) (by decide +kernel) (Nat.le_of_ble_eq_true rfl) rfl ?_
  intro p e s m args below meth c ls C hr hnm hB hl
  obtain ⟨hR, hK⟩ := hB
  have hx := C.1
  have hb := C.2.1
  suffices hmain : ∀ (H : Heap) (locs : List Loc), mm_R g A M H → va_S A s.heap H locs → W p l e rm_X2_putAt s m args below meth c H locs 0 0 (MQ below (mm_Tv g A M2) args s 0 0 A) (F0 m 0 ls []) from hmain _ _ hR va_S.rf
  clear hR
  intro H locs hR hS
  unfold ff_X2_putAt at hf
  refine lv_aload_n hx hb dX2_putAt_0 rfl (lv_at hl 0 rfl) ?_
  obtain ⟨v1, ev1, hf⟩ := mm_bd hf
  refine mm_getR C hR fs_X2_12 ev1 dX2_putAt_1 ?_
  refine lv_iload_n hx hb dX2_putAt_4 rfl (lv_at hl 1 rfl) ?_
  refine lv_iload_n hx hb dX2_putAt_5 rfl (lv_at hl 2 rfl) ?_
  obtain ⟨u2, eu2, hf⟩ := mm_bd hf
  obtain ⟨v3, ev3, hf⟩ := mm_bd hf
  refine mm_callVi (As := [.int x1, .int x2]) (rest := []) C hR hS hl.1 vs_X2_52 eu2 (jj_X1_hasCell l g A M v1 x1 x2 v3 ev3) ⟨rfl, rfl, (Nat.le_of_ble_eq_true rfl), (Nat.le_of_ble_eq_true rfl)⟩ rfl (Nat.le_of_ble_eq_true rfl) ⟨Nat.zero_le _, Nat.zero_le _⟩ rfl dX2_putAt_6 (fun H locs hR hS => ?_)
  refine lv_if_eq (tgt := 24) hx hb dX2_putAt_9 (by decide) (fun hc => ?_) (fun hc => ?_)
  · have hf := mm_if1 hc hf
    exact mm_vre C hR hS hr (Option.some.inj hf) dX2_putAt_24
  · have hf := mm_if0 hc hf
    refine lv_aload_n hx hb dX2_putAt_12 rfl (lv_at hl 0 rfl) ?_
    obtain ⟨v4, ev4, hf⟩ := mm_bd hf
    refine mm_getR C hR fs_X2_25 ev4 dX2_putAt_13 ?_
    refine lv_iload_n hx hb dX2_putAt_16 rfl (lv_at hl 2 rfl) ?_
    refine lv_bipush (v := 12) hx hb dX2_putAt_17 (by decide) ?_
    refine lv_imul hx hb dX2_putAt_19 ?_
    refine lv_iload_n hx hb dX2_putAt_20 rfl (lv_at hl 1 rfl) ?_
    refine lv_iadd hx hb dX2_putAt_21 ?_
    refine lv_iload_n hx hb dX2_putAt_22 rfl (lv_at hl 3 rfl) ?_
    obtain ⟨M5, eM5, hf⟩ := mm_bd hf
    refine mm_iast C hR hS eM5 dX2_putAt_23 (fun H locs hR hS => ?_)
    exact mm_vre C hR hS hr (Option.some.inj hf) dX2_putAt_24
def ff_X2_layCellIfPossible (M : mm_M) (x0 : Nat) (x1 : Int32) (x2 : Int32) : Option mm_M := Option.bind (mm_ck 2 M x0) fun u1 => Option.bind (ff_X2_isLaid M x0 x1 x2) fun v2 => if v2 = (0 : Int32) then (Option.bind (mm_ck 2 M x0) fun u3 => Option.bind (ff_X2_shadeForOrNone M x0 x1 x2) fun v4 => if v4 = (-1 : Int32) then (some M) else (Option.bind (mm_gR 2 M x0 1) fun v5 => Option.bind (mm_ck 3 M v5) fun u6 => Option.bind (ff_X3_bringToHand M v5 v4) fun M7 => Option.bind (mm_gR 2 M7 x0 1) fun v8 => Option.bind (mm_ck 3 M7 v8) fun u9 => Option.bind (ff_X3_takeFromHand M7 v8 v4) fun M10 => Option.bind (mm_ck 2 M10 x0) fun u11 => Option.bind (ff_X2_putAt M10 x0 x1 x2 v4) fun M12 => some M12)) else (some M)
def rm_X2_layCellIfPossible : Room := { frames := 4, cells := 0, slots := 0, locals := 98 }
set_option maxHeartbeats 4000000 in
set_option maxRecDepth 100000 in
theorem jj_X2_layCellIfPossible (l : Launch) (g : mm_G) (A : Nat → Prop) (M : mm_M) (x0 : Nat) (x1 : Int32) (x2 : Int32) (M2 : mm_M) (hf : ff_X2_layCellIfPossible M x0 x1 x2 = some M2) : Met l yX2_layCellIfPossible (mm_ws yX2_layCellIfPossible cX2_layCellIfPossible 4 (Option.none : Option Jvm.ClassFile.FieldType)) rm_X2_layCellIfPossible (va_Pc [.ref x0, .int x1, .int x2] (mm_B g A M)) (mm_Tv g A M2) 0 0 A := by
  refine mm_met (g := g) (lv := [(0, .ref x0), (1, .int x1), (2, .int x2)]) (fun U h => h.2) (by decide +kernel) (Nat.le_of_ble_eq_true rfl) rfl ?_
  intro p e s m args below meth c ls C hr hnm hB hl
  obtain ⟨hR, hK⟩ := hB
  have hx := C.1
  have hb := C.2.1
  suffices hmain : ∀ (H : Heap) (locs : List Loc), mm_R g A M H → va_S A s.heap H locs → W p l e rm_X2_layCellIfPossible s m args below meth c H locs 0 0 (MQ below (mm_Tv g A M2) args s 0 0 A) (F0 m 0 ls []) from hmain _ _ hR va_S.rf
  clear hR
  intro H locs hR hS
  unfold ff_X2_layCellIfPossible at hf
  refine lv_aload_n hx hb dX2_layCellIfPossible_0 rfl (lv_at hl 0 rfl) ?_
  refine lv_iload_n hx hb dX2_layCellIfPossible_1 rfl (lv_at hl 1 rfl) ?_
  refine lv_iload_n hx hb dX2_layCellIfPossible_2 rfl (lv_at hl 2 rfl) ?_
  obtain ⟨u1, eu1, hf⟩ := mm_bd hf
  obtain ⟨v2, ev2, hf⟩ := mm_bd hf
  refine mm_callVi (As := [.int x1, .int x2]) (rest := []) C hR hS hl.1 vs_X2_60 eu1 (jj_X2_isLaid l g A M x0 x1 x2 v2 ev2) ⟨rfl, rfl, (Nat.le_of_ble_eq_true rfl), (Nat.le_of_ble_eq_true rfl)⟩ rfl (Nat.le_of_ble_eq_true rfl) ⟨Nat.zero_le _, Nat.zero_le _⟩ rfl dX2_layCellIfPossible_3 (fun H locs hR hS => ?_)
  refine lv_if_eq (tgt := 10) hx hb dX2_layCellIfPossible_6 (by decide) (fun hc => ?_) (fun hc => ?_)
  · have hf := mm_if1 hc hf
    refine lv_aload_n hx hb dX2_layCellIfPossible_10 rfl (lv_at hl 0 rfl) ?_
    refine lv_iload_n hx hb dX2_layCellIfPossible_11 rfl (lv_at hl 1 rfl) ?_
    refine lv_iload_n hx hb dX2_layCellIfPossible_12 rfl (lv_at hl 2 rfl) ?_
    obtain ⟨u3, eu3, hf⟩ := mm_bd hf
    obtain ⟨v4, ev4, hf⟩ := mm_bd hf
    refine mm_callVi (As := [.int x1, .int x2]) (rest := []) C hR hS hl.1 vs_X2_87 eu3 (jj_X2_shadeForOrNone l g A M x0 x1 x2 v4 ev4) ⟨rfl, rfl, (Nat.le_of_ble_eq_true rfl), (Nat.le_of_ble_eq_true rfl)⟩ rfl (Nat.le_of_ble_eq_true rfl) ⟨Nat.zero_le _, Nat.zero_le _⟩ rfl dX2_layCellIfPossible_13 (fun H locs hR hS => ?_)
    refine lv_istore_n (lv' := [(3, .int v4), (0, .ref x0), (1, .int x1), (2, .int x2)]) hx hb dX2_layCellIfPossible_16 rfl hl (by decide) rfl (fun ls hl => ?_)
    refine lv_iload_n hx hb dX2_layCellIfPossible_17 rfl (lv_at hl 0 rfl) ?_
    refine lv_iconst (v := -1) hx hb dX2_layCellIfPossible_18 (by decide) ?_
    refine lv_icmp_eq (tgt := 45) hx hb dX2_layCellIfPossible_19 (by decide) (fun hc => ?_) (fun hc => ?_)
    · have hf := mm_if1 hc hf
      exact mm_vre C hR hS hr (Option.some.inj hf) dX2_layCellIfPossible_45
    · have hf := mm_if0 hc hf
      refine lv_aload_n hx hb dX2_layCellIfPossible_22 rfl (lv_at hl 1 rfl) ?_
      obtain ⟨v5, ev5, hf⟩ := mm_bd hf
      refine mm_getR C hR fs_X2_21 ev5 dX2_layCellIfPossible_23 ?_
      refine lv_iload_n hx hb dX2_layCellIfPossible_26 rfl (lv_at hl 0 rfl) ?_
      obtain ⟨u6, eu6, hf⟩ := mm_bd hf
      obtain ⟨M7, eM7, hf⟩ := mm_bd hf
      refine mm_callVv (As := [.int v4]) (rest := []) C hR hS hl.1 vs_X2_90 eu6 (jj_X3_bringToHand l g A M v5 v4 M7 eM7) ⟨rfl, rfl, (Nat.le_of_ble_eq_true rfl), (Nat.le_of_ble_eq_true rfl)⟩ rfl (Nat.le_of_ble_eq_true rfl) ⟨Nat.zero_le _, Nat.zero_le _⟩ rfl dX2_layCellIfPossible_27 (fun H locs hR hS => ?_)
      refine lv_aload_n hx hb dX2_layCellIfPossible_30 rfl (lv_at hl 1 rfl) ?_
      obtain ⟨v8, ev8, hf⟩ := mm_bd hf
      refine mm_getR C hR fs_X2_21 ev8 dX2_layCellIfPossible_31 ?_
      refine lv_iload_n hx hb dX2_layCellIfPossible_34 rfl (lv_at hl 0 rfl) ?_
      obtain ⟨u9, eu9, hf⟩ := mm_bd hf
      obtain ⟨M10, eM10, hf⟩ := mm_bd hf
      refine mm_callVv (As := [.int v4]) (rest := []) C hR hS hl.1 vs_X2_94 eu9 (jj_X3_takeFromHand l g A M7 v8 v4 M10 eM10) ⟨rfl, rfl, (Nat.le_of_ble_eq_true rfl), (Nat.le_of_ble_eq_true rfl)⟩ rfl (Nat.le_of_ble_eq_true rfl) ⟨Nat.zero_le _, Nat.zero_le _⟩ rfl dX2_layCellIfPossible_35 (fun H locs hR hS => ?_)
      refine lv_aload_n hx hb dX2_layCellIfPossible_38 rfl (lv_at hl 1 rfl) ?_
      refine lv_iload_n hx hb dX2_layCellIfPossible_39 rfl (lv_at hl 2 rfl) ?_
      refine lv_iload_n hx hb dX2_layCellIfPossible_40 rfl (lv_at hl 3 rfl) ?_
      refine lv_iload_n hx hb dX2_layCellIfPossible_41 rfl (lv_at hl 0 rfl) ?_
      obtain ⟨u11, eu11, hf⟩ := mm_bd hf
      obtain ⟨M12, eM12, hf⟩ := mm_bd hf
      refine mm_callVv (As := [.int x1, .int x2, .int v4]) (rest := []) C hR hS hl.1 vs_X2_97 eu11 (jj_X2_putAt l g A M10 x0 x1 x2 v4 M12 eM12) ⟨rfl, rfl, (Nat.le_of_ble_eq_true rfl), (Nat.le_of_ble_eq_true rfl)⟩ rfl (Nat.le_of_ble_eq_true rfl) ⟨Nat.zero_le _, Nat.zero_le _⟩ rfl dX2_layCellIfPossible_42 (fun H locs hR hS => ?_)
      exact mm_vre C hR hS hr (Option.some.inj hf) dX2_layCellIfPossible_45
  · have hf := mm_if0 hc hf
    exact mm_vre C hR hS hr (Option.some.inj hf) dX2_layCellIfPossible_9
def ff_X2_layEmptyCells_l7  (x0 : Nat) (x1 : Int32) (x2 : Int32) (M : mm_M) : Option ((Int32 × mm_M) ⊕ (Int32 × mm_M)) := Option.bind (mm_gR 2 M x0 0) fun v3 => Option.bind (mm_ck 1 M v3) fun u4 => Option.bind (ff_X1_borderCells M v3) fun v5 => if v5 ≤ x2 then (some (.inr (x2, M))) else (Option.bind (mm_gR 2 M x0 0) fun v6 => Option.bind (mm_ck 1 M v6) fun u7 => Option.bind (ff_X1_columnOf M v6 x2) fun v8 => Option.bind (mm_gR 2 M x0 0) fun v9 => Option.bind (mm_ck 1 M v9) fun u10 => Option.bind (ff_X1_rowOf M v9 x2) fun v11 => Option.bind (mm_ck 2 M x0) fun u12 => Option.bind (ff_X2_layCellIfPossible M x0 v8 v11) fun M13 => some (.inl ((x2 + (1 : Int32)), M13)))
def ff_X2_layEmptyCells_l61  (x0 : Nat) (x1 : Int32) (x2 : Int32) (x3 : Int32) (M : mm_M) : Option ((Int32 × mm_M) ⊕ (Int32 × mm_M)) := Option.bind (mm_gR 2 M x0 0) fun v19 => Option.bind (mm_gI 1 M v19 4) fun v20 => if (v20 - (1 : Int32)) ≤ x3 then (some (.inr (x3, M))) else (Option.bind (mm_ck 2 M x0) fun u21 => Option.bind (ff_X2_layCellIfPossible M x0 x3 x2) fun M22 => some (.inl ((x3 + (1 : Int32)), M22)))
def ff_X2_layEmptyCells_l46  (x0 : Nat) (x1 : Int32) (x2 : Int32) (M : mm_M) : Option ((Int32 × mm_M) ⊕ (Int32 × mm_M)) := Option.bind (mm_gR 2 M x0 0) fun v17 => Option.bind (mm_gI 1 M v17 5) fun v18 => if (v18 - (1 : Int32)) ≤ x2 then (some (.inr (x2, M))) else (Option.bind (mm_it (mm_u2 (ff_X2_layEmptyCells_l61 x0 x1 x2)) mm_fu ((1 : Int32), M)) fun e23 => mm_u2 (fun x3_24 M25 => some (.inl ((x2 + (1 : Int32)), M25))) e23)
def ff_X2_layEmptyCells (M : mm_M) (x0 : Nat) : Option ((Int32 × mm_M)) := Option.bind (mm_ck 2 M x0) fun u1 => Option.bind (ff_X2_laidCells M x0) fun v2 => Option.bind (mm_it (mm_u2 (ff_X2_layEmptyCells_l7 x0 v2)) mm_fu ((0 : Int32), M)) fun e14 => mm_u2 (fun x2_15 M16 => Option.bind (mm_it (mm_u2 (ff_X2_layEmptyCells_l46 x0 v2)) mm_fu ((1 : Int32), M16)) fun e26 => mm_u2 (fun x2_27 M28 => Option.bind (mm_ck 2 M28 x0) fun u29 => Option.bind (ff_X2_laidCells M28 x0) fun v30 => some ((v30 - v2), M28)) e26) e14
def rm_X2_layEmptyCells : Room := { frames := 5, cells := 0, slots := 0, locals := 121 }
set_option maxHeartbeats 4000000 in
set_option maxRecDepth 100000 in
theorem jj_X2_layEmptyCells (l : Launch) (g : mm_G) (A : Nat → Prop) (M : mm_M) (x0 : Nat) (r : Int32) (M2 : mm_M) (hf : ff_X2_layEmptyCells M x0 = some (r, M2)) : Met l yX2_layEmptyCells (mm_ws yX2_layEmptyCells cX2_layEmptyCells 4 (Option.some Jvm.ClassFile.FieldType.int)) rm_X2_layEmptyCells (va_Pc [.ref x0] (mm_B g A M)) (mm_Ti g A r M2) 0 0 A := by
  refine mm_met (g := g) (lv := [(0, .ref x0)]) (fun U h => h.2) (by decide +kernel) (Nat.le_of_ble_eq_true rfl) rfl ?_
  intro p e s m args below meth c ls C hr hnm hB hl
  obtain ⟨hR, hK⟩ := hB
  have hx := C.1
  have hb := C.2.1
  suffices hmain : ∀ (H : Heap) (locs : List Loc), mm_R g A M H → va_S A s.heap H locs → W p l e rm_X2_layEmptyCells s m args below meth c H locs 0 0 (MQ below (mm_Ti g A r M2) args s 0 0 A) (F0 m 0 ls []) from hmain _ _ hR va_S.rf
  clear hR
  intro H locs hR hS
  have L7 : ∀ (x0 : Nat) (x1 : Int32) (e1 : Int32 × mm_M) (hX : ∀ (x2 : Int32) (M : mm_M), e1 = (x2, M) → ∀ (H : Heap) (locs : List Loc) (ls : Array Slot), mm_R g A M H → va_S A s.heap H locs → lv_has ls 4 [(0, .ref x0), (1, .int x1)] → W p l e rm_X2_layEmptyCells s m args below meth c H locs 0 0 (MQ below (mm_Ti g A r M2) args s 0 0 A) (F0 m 44 ls [])) (n : Nat) (x2 : Int32) (M : mm_M), mm_it (mm_u2 (ff_X2_layEmptyCells_l7 x0 x1)) n (x2, M) = some e1 → ∀ (H : Heap) (locs : List Loc) (ls : Array Slot), mm_R g A M H → va_S A s.heap H locs → lv_has ls 4 [(0, .ref x0), (1, .int x1), (2, .int x2)] → W p l e rm_X2_layEmptyCells s m args below meth c H locs 0 0 (MQ below (mm_Ti g A r M2) args s 0 0 A) (F0 m 7 ls []) := by
    intro x0 x1 e1 hX n x2 M hit
    refine mm_itW (Hd := fun st => ∀ (H : Heap) (locs : List Loc) (ls : Array Slot), mm_R g A st.2 H → va_S A s.heap H locs → lv_has ls 4 [(0, .ref x0), (1, .int x1), (2, .int st.1)] → W p l e rm_X2_layEmptyCells s m args below meth c H locs 0 0 (MQ below (mm_Ti g A r M2) args s 0 0 A) (F0 m 7 ls [])) (fun st y hf hin hout => ?_) n (x2, M) hit
    obtain ⟨x2, M⟩ := st
    have hf := mm_u2e hf
    intro H locs ls hR hS hl
    unfold ff_X2_layEmptyCells_l7 at hf
    refine lv_iload_n hx hb dX2_layEmptyCells_7 rfl (lv_at hl 2 rfl) ?_
    refine lv_aload_n hx hb dX2_layEmptyCells_8 rfl (lv_at hl 0 rfl) ?_
    obtain ⟨v3, ev3, hf⟩ := mm_bd hf
    refine mm_getR C hR fs_X2_12 ev3 dX2_layEmptyCells_9 ?_
    obtain ⟨u4, eu4, hf⟩ := mm_bd hf
    obtain ⟨v5, ev5, hf⟩ := mm_bd hf
    refine mm_callVi (As := []) (rest := [.int x2]) C hR hS hl.1 vs_X2_105 eu4 (jj_X1_borderCells l g A M v3 v5 ev5) ⟨rfl, rfl, (Nat.le_of_ble_eq_true rfl), (Nat.le_of_ble_eq_true rfl)⟩ rfl (Nat.le_of_ble_eq_true rfl) ⟨Nat.zero_le _, Nat.zero_le _⟩ rfl dX2_layEmptyCells_12 (fun H locs hR hS => ?_)
    refine lv_icmp_ge (tgt := 44) hx hb dX2_layEmptyCells_15 (by decide) (fun hc => ?_) (fun hc => ?_)
    · have hf := mm_if1 hc hf
      exact hX _ _ (hout _ (Option.some.inj hf).symm).symm H locs ls hR hS (lv_sub hl [0, 1] rfl)
    · have hf := mm_if0 hc hf
      refine lv_aload_n hx hb dX2_layEmptyCells_18 rfl (lv_at hl 0 rfl) ?_
      refine lv_aload_n hx hb dX2_layEmptyCells_19 rfl (lv_at hl 0 rfl) ?_
      obtain ⟨v6, ev6, hf⟩ := mm_bd hf
      refine mm_getR C hR fs_X2_12 ev6 dX2_layEmptyCells_20 ?_
      refine lv_iload_n hx hb dX2_layEmptyCells_23 rfl (lv_at hl 2 rfl) ?_
      obtain ⟨u7, eu7, hf⟩ := mm_bd hf
      obtain ⟨v8, ev8, hf⟩ := mm_bd hf
      refine mm_callVi (As := [.int x2]) (rest := [.ref x0]) C hR hS hl.1 vs_X2_108 eu7 (jj_X1_columnOf l g A M v6 x2 v8 ev8) ⟨rfl, rfl, (Nat.le_of_ble_eq_true rfl), (Nat.le_of_ble_eq_true rfl)⟩ rfl (Nat.le_of_ble_eq_true rfl) ⟨Nat.zero_le _, Nat.zero_le _⟩ rfl dX2_layEmptyCells_24 (fun H locs hR hS => ?_)
      refine lv_aload_n hx hb dX2_layEmptyCells_27 rfl (lv_at hl 0 rfl) ?_
      obtain ⟨v9, ev9, hf⟩ := mm_bd hf
      refine mm_getR C hR fs_X2_12 ev9 dX2_layEmptyCells_28 ?_
      refine lv_iload_n hx hb dX2_layEmptyCells_31 rfl (lv_at hl 2 rfl) ?_
      obtain ⟨u10, eu10, hf⟩ := mm_bd hf
      obtain ⟨v11, ev11, hf⟩ := mm_bd hf
      refine mm_callVi (As := [.int x2]) (rest := [.int v8, .ref x0]) C hR hS hl.1 vs_X2_111 eu10 (jj_X1_rowOf l g A M v9 x2 v11 ev11) ⟨rfl, rfl, (Nat.le_of_ble_eq_true rfl), (Nat.le_of_ble_eq_true rfl)⟩ rfl (Nat.le_of_ble_eq_true rfl) ⟨Nat.zero_le _, Nat.zero_le _⟩ rfl dX2_layEmptyCells_32 (fun H locs hR hS => ?_)
      obtain ⟨u12, eu12, hf⟩ := mm_bd hf
      obtain ⟨M13, eM13, hf⟩ := mm_bd hf
      refine mm_callVv (As := [.int v8, .int v11]) (rest := []) C hR hS hl.1 vs_X2_114 eu12 (jj_X2_layCellIfPossible l g A M x0 v8 v11 M13 eM13) ⟨rfl, rfl, (Nat.le_of_ble_eq_true rfl), (Nat.le_of_ble_eq_true rfl)⟩ rfl (Nat.le_of_ble_eq_true rfl) ⟨Nat.zero_le _, Nat.zero_le _⟩ rfl dX2_layEmptyCells_35 (fun H locs hR hS => ?_)
      refine lv_iinc (v := (x2 + (1 : Int32))) (lv' := [(2, .int (x2 + (1 : Int32))), (0, .ref x0), (1, .int x1)]) hx hb dX2_layEmptyCells_38 hl (k := 2) rfl rfl (by decide) rfl (fun ls hl => ?_)
      refine lv_goto (tgt := 7) hx hb dX2_layEmptyCells_41 (by decide) ?_
      exact hin _ (Option.some.inj hf).symm H locs ls hR hS (lv_sub hl [1, 2, 0] rfl)
  have L61 : ∀ (x0 : Nat) (x1 : Int32) (x2 : Int32) (e1 : Int32 × mm_M) (hX : ∀ (x3 : Int32) (M : mm_M), e1 = (x3, M) → ∀ (H : Heap) (locs : List Loc) (ls : Array Slot), mm_R g A M H → va_S A s.heap H locs → lv_has ls 4 [(0, .ref x0), (1, .int x1), (2, .int x2)] → W p l e rm_X2_layEmptyCells s m args below meth c H locs 0 0 (MQ below (mm_Ti g A r M2) args s 0 0 A) (F0 m 86 ls [])) (n : Nat) (x3 : Int32) (M : mm_M), mm_it (mm_u2 (ff_X2_layEmptyCells_l61 x0 x1 x2)) n (x3, M) = some e1 → ∀ (H : Heap) (locs : List Loc) (ls : Array Slot), mm_R g A M H → va_S A s.heap H locs → lv_has ls 4 [(0, .ref x0), (1, .int x1), (2, .int x2), (3, .int x3)] → W p l e rm_X2_layEmptyCells s m args below meth c H locs 0 0 (MQ below (mm_Ti g A r M2) args s 0 0 A) (F0 m 61 ls []) := by
    intro x0 x1 x2 e1 hX n x3 M hit
    refine mm_itW (Hd := fun st => ∀ (H : Heap) (locs : List Loc) (ls : Array Slot), mm_R g A st.2 H → va_S A s.heap H locs → lv_has ls 4 [(0, .ref x0), (1, .int x1), (2, .int x2), (3, .int st.1)] → W p l e rm_X2_layEmptyCells s m args below meth c H locs 0 0 (MQ below (mm_Ti g A r M2) args s 0 0 A) (F0 m 61 ls [])) (fun st y hf hin hout => ?_) n (x3, M) hit
    obtain ⟨x3, M⟩ := st
    have hf := mm_u2e hf
    intro H locs ls hR hS hl
    unfold ff_X2_layEmptyCells_l61 at hf
    refine lv_iload_n hx hb dX2_layEmptyCells_61 rfl (lv_at hl 3 rfl) ?_
    refine lv_aload_n hx hb dX2_layEmptyCells_62 rfl (lv_at hl 0 rfl) ?_
    obtain ⟨v19, ev19, hf⟩ := mm_bd hf
    refine mm_getR C hR fs_X2_12 ev19 dX2_layEmptyCells_63 ?_
    obtain ⟨v20, ev20, hf⟩ := mm_bd hf
    refine mm_getI C hR fs_X2_75 ev20 dX2_layEmptyCells_66 ?_
    refine lv_iconst (v := 1) hx hb dX2_layEmptyCells_69 (by decide) ?_
    refine lv_isub hx hb dX2_layEmptyCells_70 ?_
    refine lv_icmp_ge (tgt := 86) hx hb dX2_layEmptyCells_71 (by decide) (fun hc => ?_) (fun hc => ?_)
    · have hf := mm_if1 hc hf
      exact hX _ _ (hout _ (Option.some.inj hf).symm).symm H locs ls hR hS (lv_sub hl [0, 1, 2] rfl)
    · have hf := mm_if0 hc hf
      refine lv_aload_n hx hb dX2_layEmptyCells_74 rfl (lv_at hl 0 rfl) ?_
      refine lv_iload_n hx hb dX2_layEmptyCells_75 rfl (lv_at hl 3 rfl) ?_
      refine lv_iload_n hx hb dX2_layEmptyCells_76 rfl (lv_at hl 2 rfl) ?_
      obtain ⟨u21, eu21, hf⟩ := mm_bd hf
      obtain ⟨M22, eM22, hf⟩ := mm_bd hf
      refine mm_callVv (As := [.int x3, .int x2]) (rest := []) C hR hS hl.1 vs_X2_114 eu21 (jj_X2_layCellIfPossible l g A M x0 x3 x2 M22 eM22) ⟨rfl, rfl, (Nat.le_of_ble_eq_true rfl), (Nat.le_of_ble_eq_true rfl)⟩ rfl (Nat.le_of_ble_eq_true rfl) ⟨Nat.zero_le _, Nat.zero_le _⟩ rfl dX2_layEmptyCells_77 (fun H locs hR hS => ?_)
      refine lv_iinc (v := (x3 + (1 : Int32))) (lv' := [(3, .int (x3 + (1 : Int32))), (0, .ref x0), (1, .int x1), (2, .int x2)]) hx hb dX2_layEmptyCells_80 hl (k := 3) rfl rfl (by decide) rfl (fun ls hl => ?_)
      refine lv_goto (tgt := 61) hx hb dX2_layEmptyCells_83 (by decide) ?_
      exact hin _ (Option.some.inj hf).symm H locs ls hR hS (lv_sub hl [1, 2, 3, 0] rfl)
  have L46 : ∀ (x0 : Nat) (x1 : Int32) (e1 : Int32 × mm_M) (hX : ∀ (x2 : Int32) (M : mm_M), e1 = (x2, M) → ∀ (H : Heap) (locs : List Loc) (ls : Array Slot), mm_R g A M H → va_S A s.heap H locs → lv_has ls 4 [(0, .ref x0), (1, .int x1)] → W p l e rm_X2_layEmptyCells s m args below meth c H locs 0 0 (MQ below (mm_Ti g A r M2) args s 0 0 A) (F0 m 92 ls [])) (n : Nat) (x2 : Int32) (M : mm_M), mm_it (mm_u2 (ff_X2_layEmptyCells_l46 x0 x1)) n (x2, M) = some e1 → ∀ (H : Heap) (locs : List Loc) (ls : Array Slot), mm_R g A M H → va_S A s.heap H locs → lv_has ls 4 [(0, .ref x0), (1, .int x1), (2, .int x2)] → W p l e rm_X2_layEmptyCells s m args below meth c H locs 0 0 (MQ below (mm_Ti g A r M2) args s 0 0 A) (F0 m 46 ls []) := by
    intro x0 x1 e1 hX n x2 M hit
    refine mm_itW (Hd := fun st => ∀ (H : Heap) (locs : List Loc) (ls : Array Slot), mm_R g A st.2 H → va_S A s.heap H locs → lv_has ls 4 [(0, .ref x0), (1, .int x1), (2, .int st.1)] → W p l e rm_X2_layEmptyCells s m args below meth c H locs 0 0 (MQ below (mm_Ti g A r M2) args s 0 0 A) (F0 m 46 ls [])) (fun st y hf hin hout => ?_) n (x2, M) hit
    obtain ⟨x2, M⟩ := st
    have hf := mm_u2e hf
    intro H locs ls hR hS hl
    unfold ff_X2_layEmptyCells_l46 at hf
    refine lv_iload_n hx hb dX2_layEmptyCells_46 rfl (lv_at hl 2 rfl) ?_
    refine lv_aload_n hx hb dX2_layEmptyCells_47 rfl (lv_at hl 0 rfl) ?_
    obtain ⟨v17, ev17, hf⟩ := mm_bd hf
    refine mm_getR C hR fs_X2_12 ev17 dX2_layEmptyCells_48 ?_
    obtain ⟨v18, ev18, hf⟩ := mm_bd hf
    refine mm_getI C hR fs_X2_72 ev18 dX2_layEmptyCells_51 ?_
    refine lv_iconst (v := 1) hx hb dX2_layEmptyCells_54 (by decide) ?_
    refine lv_isub hx hb dX2_layEmptyCells_55 ?_
    refine lv_icmp_ge (tgt := 92) hx hb dX2_layEmptyCells_56 (by decide) (fun hc => ?_) (fun hc => ?_)
    · have hf := mm_if1 hc hf
      exact hX _ _ (hout _ (Option.some.inj hf).symm).symm H locs ls hR hS (lv_sub hl [0, 1] rfl)
    · have hf := mm_if0 hc hf
      refine lv_iconst (v := 1) hx hb dX2_layEmptyCells_59 (by decide) ?_
      refine lv_istore_n (lv' := [(3, .int (1 : Int32)), (0, .ref x0), (1, .int x1), (2, .int x2)]) hx hb dX2_layEmptyCells_60 rfl hl (by decide) rfl (fun ls hl => ?_)
      obtain ⟨e23, he23, hf⟩ := mm_bd hf
      refine L61 x0 x1 x2 e23 (fun x3_24 M25 he => ?_) _ (1 : Int32) M he23 H locs ls hR hS (lv_sub hl [1, 2, 3, 0] rfl)
      subst he
      intro H locs ls hR hS hl
      have hf := mm_u2e hf
      refine lv_iinc (v := (x2 + (1 : Int32))) (lv' := [(2, .int (x2 + (1 : Int32))), (0, .ref x0), (1, .int x1)]) hx hb dX2_layEmptyCells_86 hl (k := 2) rfl rfl (by decide) rfl (fun ls hl => ?_)
      refine lv_goto (tgt := 46) hx hb dX2_layEmptyCells_89 (by decide) ?_
      exact hin _ (Option.some.inj hf).symm H locs ls hR hS (lv_sub hl [1, 2, 0] rfl)
  unfold ff_X2_layEmptyCells at hf
  refine lv_aload_n hx hb dX2_layEmptyCells_0 rfl (lv_at hl 0 rfl) ?_
  obtain ⟨u1, eu1, hf⟩ := mm_bd hf
  obtain ⟨v2, ev2, hf⟩ := mm_bd hf
  refine mm_callVi (As := []) (rest := []) C hR hS hl.1 vs_X2_101 eu1 (jj_X2_laidCells l g A M x0 v2 ev2) ⟨rfl, rfl, (Nat.le_of_ble_eq_true rfl), (Nat.le_of_ble_eq_true rfl)⟩ rfl (Nat.le_of_ble_eq_true rfl) ⟨Nat.zero_le _, Nat.zero_le _⟩ rfl dX2_layEmptyCells_1 (fun H locs hR hS => ?_)
  refine lv_istore_n (lv' := [(1, .int v2), (0, .ref x0)]) hx hb dX2_layEmptyCells_4 rfl hl (by decide) rfl (fun ls hl => ?_)
  refine lv_iconst (v := 0) hx hb dX2_layEmptyCells_5 (by decide) ?_
  refine lv_istore_n (lv' := [(2, .int (0 : Int32)), (1, .int v2), (0, .ref x0)]) hx hb dX2_layEmptyCells_6 rfl hl (by decide) rfl (fun ls hl => ?_)
  obtain ⟨e14, he14, hf⟩ := mm_bd hf
  refine L7 x0 v2 e14 (fun x2_15 M16 he => ?_) _ (0 : Int32) M he14 H locs ls hR hS (lv_sub hl [2, 1, 0] rfl)
  subst he
  intro H locs ls hR hS hl
  have hf := mm_u2e hf
  refine lv_iconst (v := 1) hx hb dX2_layEmptyCells_44 (by decide) ?_
  refine lv_istore_n (lv' := [(2, .int (1 : Int32)), (0, .ref x0), (1, .int v2)]) hx hb dX2_layEmptyCells_45 rfl hl (by decide) rfl (fun ls hl => ?_)
  obtain ⟨e26, he26, hf⟩ := mm_bd hf
  refine L46 x0 v2 e26 (fun x2_27 M28 he => ?_) _ (1 : Int32) M16 he26 H locs ls hR hS (lv_sub hl [1, 2, 0] rfl)
  subst he
  intro H locs ls hR hS hl
  have hf := mm_u2e hf
  refine lv_aload_n hx hb dX2_layEmptyCells_92 rfl (lv_at hl 0 rfl) ?_
  obtain ⟨u29, eu29, hf⟩ := mm_bd hf
  obtain ⟨v30, ev30, hf⟩ := mm_bd hf
  refine mm_callVi (As := []) (rest := []) C hR hS hl.1 vs_X2_101 eu29 (jj_X2_laidCells l g A M28 x0 v30 ev30) ⟨rfl, rfl, (Nat.le_of_ble_eq_true rfl), (Nat.le_of_ble_eq_true rfl)⟩ rfl (Nat.le_of_ble_eq_true rfl) ⟨Nat.zero_le _, Nat.zero_le _⟩ rfl dX2_layEmptyCells_93 (fun H locs hR hS => ?_)
  refine lv_iload_n hx hb dX2_layEmptyCells_96 rfl (lv_at hl 1 rfl) ?_
  refine lv_isub hx hb dX2_layEmptyCells_97 ?_
  exact mm_ire C hR hS hr ((mm_pe hf).1) (mm_pe hf).2 dX2_layEmptyCells_98
def ff_X2_liftToHand (M : mm_M) (x0 : Nat) (x1 : Int32) (x2 : Int32) : Option ((Int32 × mm_M)) := Option.bind (mm_ck 2 M x0) fun u1 => Option.bind (ff_X2_laidOrNone M x0 x1 x2) fun v2 => Option.bind (mm_ck 2 M x0) fun u3 => Option.bind (ff_X2_putAt M x0 x1 x2 (-1 : Int32)) fun M4 => Option.bind (mm_gI 2 M4 x0 3) fun v5 => Option.bind (mm_pI 2 M4 x0 3 (v5 + (1 : Int32))) fun M6 => Option.bind (mm_gI 2 M6 x0 3) fun v7 => Option.bind (mm_rm v7 (3 : Int32)) fun v8 => if v8 = (0 : Int32) then (Option.bind (mm_gR 2 M6 x0 1) fun v12 => Option.bind (mm_ck 3 M6 v12) fun u13 => Option.bind (ff_X3_addBroken M6 v12) fun M14 => some ((0 : Int32), M14)) else (Option.bind (mm_gR 2 M6 x0 1) fun v9 => Option.bind (mm_ck 3 M6 v9) fun u10 => Option.bind (ff_X3_putAtHand M6 v9 v2) fun M11 => some ((1 : Int32), M11))
def rm_X2_liftToHand : Room := { frames := 2, cells := 0, slots := 0, locals := 45 }
set_option maxHeartbeats 4000000 in
set_option maxRecDepth 100000 in
theorem jj_X2_liftToHand (l : Launch) (g : mm_G) (A : Nat → Prop) (M : mm_M) (x0 : Nat) (x1 : Int32) (x2 : Int32) (r : Int32) (M2 : mm_M) (hf : ff_X2_liftToHand M x0 x1 x2 = some (r, M2)) : Met l yX2_liftToHand (mm_ws yX2_liftToHand cX2_liftToHand 4 (Option.some Jvm.ClassFile.FieldType.boolean)) rm_X2_liftToHand (va_Pc [.ref x0, .int x1, .int x2] (mm_B g A M)) (mm_Ti g A r M2) 0 0 A := by
  refine mm_met (g := g) (lv := [(0, .ref x0), (1, .int x1), (2, .int x2)]) (fun U h => h.2) (by decide +kernel) (Nat.le_of_ble_eq_true rfl) rfl ?_
  intro p e s m args below meth c ls C hr hnm hB hl
  obtain ⟨hR, hK⟩ := hB
  have hx := C.1
  have hb := C.2.1
  suffices hmain : ∀ (H : Heap) (locs : List Loc), mm_R g A M H → va_S A s.heap H locs → W p l e rm_X2_liftToHand s m args below meth c H locs 0 0 (MQ below (mm_Ti g A r M2) args s 0 0 A) (F0 m 0 ls []) from hmain _ _ hR va_S.rf
  clear hR
  intro H locs hR hS
  unfold ff_X2_liftToHand at hf
  refine lv_aload_n hx hb dX2_liftToHand_0 rfl (lv_at hl 0 rfl) ?_
  refine lv_iload_n hx hb dX2_liftToHand_1 rfl (lv_at hl 1 rfl) ?_
  refine lv_iload_n hx hb dX2_liftToHand_2 rfl (lv_at hl 2 rfl) ?_
  obtain ⟨u1, eu1, hf⟩ := mm_bd hf
  obtain ⟨v2, ev2, hf⟩ := mm_bd hf
  refine mm_callVi (As := [.int x1, .int x2]) (rest := []) C hR hS hl.1 vs_X2_56 eu1 (jj_X2_laidOrNone l g A M x0 x1 x2 v2 ev2) ⟨rfl, rfl, (Nat.le_of_ble_eq_true rfl), (Nat.le_of_ble_eq_true rfl)⟩ rfl (Nat.le_of_ble_eq_true rfl) ⟨Nat.zero_le _, Nat.zero_le _⟩ rfl dX2_liftToHand_3 (fun H locs hR hS => ?_)
  refine lv_istore_n (lv' := [(3, .int v2), (0, .ref x0), (1, .int x1), (2, .int x2)]) hx hb dX2_liftToHand_6 rfl hl (by decide) rfl (fun ls hl => ?_)
  refine lv_aload_n hx hb dX2_liftToHand_7 rfl (lv_at hl 1 rfl) ?_
  refine lv_iload_n hx hb dX2_liftToHand_8 rfl (lv_at hl 2 rfl) ?_
  refine lv_iload_n hx hb dX2_liftToHand_9 rfl (lv_at hl 3 rfl) ?_
  refine lv_iconst (v := -1) hx hb dX2_liftToHand_10 (by decide) ?_
  obtain ⟨u3, eu3, hf⟩ := mm_bd hf
  obtain ⟨M4, eM4, hf⟩ := mm_bd hf
  refine mm_callVv (As := [.int x1, .int x2, .int (-1 : Int32)]) (rest := []) C hR hS hl.1 vs_X2_97 eu3 (jj_X2_putAt l g A M x0 x1 x2 (-1 : Int32) M4 eM4) ⟨rfl, rfl, (Nat.le_of_ble_eq_true rfl), (Nat.le_of_ble_eq_true rfl)⟩ rfl (Nat.le_of_ble_eq_true rfl) ⟨Nat.zero_le _, Nat.zero_le _⟩ rfl dX2_liftToHand_11 (fun H locs hR hS => ?_)
  refine lv_aload_n hx hb dX2_liftToHand_14 rfl (lv_at hl 1 rfl) ?_
  refine lv_dup hx hb dX2_liftToHand_15 rfl ?_
  obtain ⟨v5, ev5, hf⟩ := mm_bd hf
  refine mm_getI C hR fs_X2_48 ev5 dX2_liftToHand_16 ?_
  refine lv_iconst (v := 1) hx hb dX2_liftToHand_19 (by decide) ?_
  refine lv_iadd hx hb dX2_liftToHand_20 ?_
  obtain ⟨M6, eM6, hf⟩ := mm_bd hf
  refine mm_putI C hR hS ps_X2_48 eM6 dX2_liftToHand_21 (fun H locs hR hS => ?_)
  refine lv_aload_n hx hb dX2_liftToHand_24 rfl (lv_at hl 1 rfl) ?_
  obtain ⟨v7, ev7, hf⟩ := mm_bd hf
  refine mm_getI C hR fs_X2_48 ev7 dX2_liftToHand_25 ?_
  refine lv_iconst (v := 3) hx hb dX2_liftToHand_28 (by decide) ?_
  obtain ⟨v8, ev8, hf⟩ := mm_bd hf
  refine mm_irem C ev8 dX2_liftToHand_29 ?_
  refine lv_if_ne (tgt := 42) hx hb dX2_liftToHand_30 (by decide) (fun hc => ?_) (fun hc => ?_)
  · have hf := mm_if0 hc hf
    refine lv_aload_n hx hb dX2_liftToHand_42 rfl (lv_at hl 1 rfl) ?_
    obtain ⟨v9, ev9, hf⟩ := mm_bd hf
    refine mm_getR C hR fs_X2_21 ev9 dX2_liftToHand_43 ?_
    refine lv_iload_n hx hb dX2_liftToHand_46 rfl (lv_at hl 0 rfl) ?_
    obtain ⟨u10, eu10, hf⟩ := mm_bd hf
    obtain ⟨M11, eM11, hf⟩ := mm_bd hf
    refine mm_callVv (As := [.int v2]) (rest := []) C hR hS hl.1 vs_X2_121 eu10 (jj_X3_putAtHand l g A M6 v9 v2 M11 eM11) ⟨rfl, rfl, (Nat.le_of_ble_eq_true rfl), (Nat.le_of_ble_eq_true rfl)⟩ rfl (Nat.le_of_ble_eq_true rfl) ⟨Nat.zero_le _, Nat.zero_le _⟩ rfl dX2_liftToHand_47 (fun H locs hR hS => ?_)
    refine lv_iconst (v := 1) hx hb dX2_liftToHand_50 (by decide) ?_
    exact mm_zre C hR hS hr (Or.inr rfl) ((mm_pe hf).1) (mm_pe hf).2 dX2_liftToHand_51
  · have hf := mm_if1 hc hf
    refine lv_aload_n hx hb dX2_liftToHand_33 rfl (lv_at hl 1 rfl) ?_
    obtain ⟨v12, ev12, hf⟩ := mm_bd hf
    refine mm_getR C hR fs_X2_21 ev12 dX2_liftToHand_34 ?_
    obtain ⟨u13, eu13, hf⟩ := mm_bd hf
    obtain ⟨M14, eM14, hf⟩ := mm_bd hf
    refine mm_callVv (As := []) (rest := []) C hR hS hl.1 vs_X2_118 eu13 (jj_X3_addBroken l g A M6 v12 M14 eM14) ⟨rfl, rfl, (Nat.le_of_ble_eq_true rfl), (Nat.le_of_ble_eq_true rfl)⟩ rfl (Nat.le_of_ble_eq_true rfl) ⟨Nat.zero_le _, Nat.zero_le _⟩ rfl dX2_liftToHand_37 (fun H locs hR hS => ?_)
    refine lv_iconst (v := 0) hx hb dX2_liftToHand_40 (by decide) ?_
    exact mm_zre C hR hS hr (Or.inl rfl) ((mm_pe hf).1) (mm_pe hf).2 dX2_liftToHand_41
def ff_X2_lackOf_j57 (M : mm_M) (x0 : Nat) (x1 : Int32) (x2 : Int32) (x3 : Int32) (x4 : Int32) : Option ((Int32 × Int32) ⊕ (Int32 × Int32)) := some (.inl (x2, (x4 + (1 : Int32))))
def ff_X2_lackOf_l18  (M : mm_M) (x0 : Nat) (x1 : Int32) (x3 : Int32) (x2 : Int32) (x4 : Int32) : Option ((Int32 × Int32) ⊕ (Int32 × Int32)) := Option.bind (mm_gR 2 M x0 0) fun v3 => Option.bind (mm_gI 1 M v3 4) fun v4 => if v4 ≤ x4 then (some (.inr (x2, x4))) else (Option.bind (mm_ck 2 M x0) fun u5 => Option.bind (ff_X2_isLaid M x0 x4 x3) fun v6 => if v6 = (0 : Int32) then (Option.bind (mm_gR 2 M x0 0) fun v7 => Option.bind (mm_ck 1 M v7) fun u8 => Option.bind (ff_X1_wantedAt M v7 x4 x3) fun v9 => if v9 = x1 then (ff_X2_lackOf_j57 M x0 x1 (x2 + (1 : Int32)) x3 x4) else (ff_X2_lackOf_j57 M x0 x1 x2 x3 x4)) else (ff_X2_lackOf_j57 M x0 x1 x2 x3 x4))
def ff_X2_lackOf_l4  (M : mm_M) (x0 : Nat) (x1 : Int32) (x2 : Int32) (x3 : Int32) : Option ((Int32 × Int32) ⊕ (Int32 × Int32)) := Option.bind (mm_gR 2 M x0 0) fun v1 => Option.bind (mm_gI 1 M v1 5) fun v2 => if v2 ≤ x3 then (some (.inr (x2, x3))) else (Option.bind (mm_it (mm_u2 (ff_X2_lackOf_l18 M x0 x1 x3)) mm_fu (x2, (0 : Int32))) fun e10 => mm_u2 (fun x2_11 x4_12 => some (.inl (x2_11, (x3 + (1 : Int32))))) e10)
def ff_X2_lackOf (M : mm_M) (x0 : Nat) (x1 : Int32) : Option Int32 := Option.bind (mm_it (mm_u2 (ff_X2_lackOf_l4 M x0 x1)) mm_fu ((0 : Int32), (0 : Int32))) fun e13 => mm_u2 (fun x2_14 x3_15 => Option.bind (mm_gR 2 M x0 1) fun v16 => Option.bind (mm_ck 3 M v16) fun u17 => Option.bind (ff_X3_readyOf M v16 x1) fun v18 => some (mm_mx (x2_14 - v18) (0 : Int32))) e13
def rm_X2_lackOf : Room := { frames := 3, cells := 0, slots := 0, locals := 76 }
set_option maxHeartbeats 4000000 in
set_option maxRecDepth 100000 in
theorem jj_X2_lackOf (l : Launch) (g : mm_G) (A : Nat → Prop) (M : mm_M) (x0 : Nat) (x1 : Int32) (r : Int32) (hf : ff_X2_lackOf M x0 x1 = some r) : Met l yX2_lackOf (mm_ws yX2_lackOf cX2_lackOf 5 (Option.some Jvm.ClassFile.FieldType.int)) rm_X2_lackOf (va_Pc [.ref x0, .int x1] (mm_B g A M)) (mm_Ti g A r M) 0 0 A := by
  refine mm_met (g := g) (lv := [(0, .ref x0), (1, .int x1)]) (fun U h => h.2) (by decide +kernel) (Nat.le_of_ble_eq_true rfl) rfl ?_
  intro p e s m args below meth c ls C hr hnm hB hl
  obtain ⟨hR, hK⟩ := hB
  have hx := C.1
  have hb := C.2.1
  suffices hmain : ∀ (H : Heap) (locs : List Loc), mm_R g A M H → va_S A s.heap H locs → W p l e rm_X2_lackOf s m args below meth c H locs 0 0 (MQ below (mm_Ti g A r M) args s 0 0 A) (F0 m 0 ls []) from hmain _ _ hR va_S.rf
  clear hR
  intro H locs hR hS
  have L18 : ∀ (x0 : Nat) (x1 : Int32) (x3 : Int32) (e1 : Int32 × Int32) (hX : ∀ (x2 : Int32) (x4 : Int32), e1 = (x2, x4) → ∀ (H : Heap) (locs : List Loc) (ls : Array Slot), mm_R g A M H → va_S A s.heap H locs → lv_has ls 5 [(0, .ref x0), (1, .int x1), (2, .int x2), (3, .int x3)] → W p l e rm_X2_lackOf s m args below meth c H locs 0 0 (MQ below (mm_Ti g A r M) args s 0 0 A) (F0 m 63 ls [])) (n : Nat) (x2 : Int32) (x4 : Int32), mm_it (mm_u2 (ff_X2_lackOf_l18 M x0 x1 x3)) n (x2, x4) = some e1 → ∀ (H : Heap) (locs : List Loc) (ls : Array Slot), mm_R g A M H → va_S A s.heap H locs → lv_has ls 5 [(0, .ref x0), (1, .int x1), (2, .int x2), (3, .int x3), (4, .int x4)] → W p l e rm_X2_lackOf s m args below meth c H locs 0 0 (MQ below (mm_Ti g A r M) args s 0 0 A) (F0 m 18 ls []) := by
    intro x0 x1 x3 e1 hX n x2 x4 hit
    refine mm_itW (Hd := fun st => ∀ (H : Heap) (locs : List Loc) (ls : Array Slot), mm_R g A M H → va_S A s.heap H locs → lv_has ls 5 [(0, .ref x0), (1, .int x1), (2, .int st.1), (3, .int x3), (4, .int st.2)] → W p l e rm_X2_lackOf s m args below meth c H locs 0 0 (MQ below (mm_Ti g A r M) args s 0 0 A) (F0 m 18 ls [])) (fun st y hf hin hout => ?_) n (x2, x4) hit
    obtain ⟨x2, x4⟩ := st
    have hf := mm_u2e hf
    have J57 : ∀ (x2 : Int32) (x4 : Int32) (H : Heap) (locs : List Loc) (ls : Array Slot), mm_R g A M H → va_S A s.heap H locs → lv_has ls 5 [(0, .ref x0), (1, .int x1), (2, .int x2), (3, .int x3), (4, .int x4)] → ff_X2_lackOf_j57 M x0 x1 x2 x3 x4 = some y → W p l e rm_X2_lackOf s m args below meth c H locs 0 0 (MQ below (mm_Ti g A r M) args s 0 0 A) (F0 m 57 ls []) := by
      intro x2 x4 H locs ls hR hS hl hf
      unfold ff_X2_lackOf_j57 at hf
      refine lv_iinc (v := (x4 + (1 : Int32))) (lv' := [(4, .int (x4 + (1 : Int32))), (0, .ref x0), (1, .int x1), (2, .int x2), (3, .int x3)]) hx hb dX2_lackOf_57 hl (k := 4) rfl rfl (by decide) rfl (fun ls hl => ?_)
      refine lv_goto (tgt := 18) hx hb dX2_lackOf_60 (by decide) ?_
      exact hin _ (Option.some.inj hf).symm H locs ls hR hS (lv_sub hl [1, 2, 3, 4, 0] rfl)
    intro H locs ls hR hS hl
    unfold ff_X2_lackOf_l18 at hf
    refine lv_iload hx hb dX2_lackOf_18 (lv_at hl 4 rfl) ?_
    refine lv_aload_n hx hb dX2_lackOf_20 rfl (lv_at hl 0 rfl) ?_
    obtain ⟨v3, ev3, hf⟩ := mm_bd hf
    refine mm_getR C hR fs_X2_12 ev3 dX2_lackOf_21 ?_
    obtain ⟨v4, ev4, hf⟩ := mm_bd hf
    refine mm_getI C hR fs_X2_75 ev4 dX2_lackOf_24 ?_
    refine lv_icmp_ge (tgt := 63) hx hb dX2_lackOf_27 (by decide) (fun hc => ?_) (fun hc => ?_)
    · have hf := mm_if1 hc hf
      exact hX _ _ (hout _ (Option.some.inj hf).symm).symm H locs ls hR hS (lv_sub hl [0, 1, 2, 3] rfl)
    · have hf := mm_if0 hc hf
      refine lv_aload_n hx hb dX2_lackOf_30 rfl (lv_at hl 0 rfl) ?_
      refine lv_iload hx hb dX2_lackOf_31 (lv_at hl 4 rfl) ?_
      refine lv_iload_n hx hb dX2_lackOf_33 rfl (lv_at hl 3 rfl) ?_
      obtain ⟨u5, eu5, hf⟩ := mm_bd hf
      obtain ⟨v6, ev6, hf⟩ := mm_bd hf
      refine mm_callVi (As := [.int x4, .int x3]) (rest := []) C hR hS hl.1 vs_X2_60 eu5 (jj_X2_isLaid l g A M x0 x4 x3 v6 ev6) ⟨rfl, rfl, (Nat.le_of_ble_eq_true rfl), (Nat.le_of_ble_eq_true rfl)⟩ rfl (Nat.le_of_ble_eq_true rfl) ⟨Nat.zero_le _, Nat.zero_le _⟩ rfl dX2_lackOf_34 (fun H locs hR hS => ?_)
      refine lv_if_ne (tgt := 57) hx hb dX2_lackOf_37 (by decide) (fun hc => ?_) (fun hc => ?_)
      · have hf := mm_if0 hc hf
        exact J57 x2 x4 H locs ls hR hS (lv_sub hl [0, 1, 2, 3, 4] rfl) hf
      · have hf := mm_if1 hc hf
        refine lv_aload_n hx hb dX2_lackOf_40 rfl (lv_at hl 0 rfl) ?_
        obtain ⟨v7, ev7, hf⟩ := mm_bd hf
        refine mm_getR C hR fs_X2_12 ev7 dX2_lackOf_41 ?_
        refine lv_iload hx hb dX2_lackOf_44 (lv_at hl 4 rfl) ?_
        refine lv_iload_n hx hb dX2_lackOf_46 rfl (lv_at hl 3 rfl) ?_
        obtain ⟨u8, eu8, hf⟩ := mm_bd hf
        obtain ⟨v9, ev9, hf⟩ := mm_bd hf
        refine mm_callVi (As := [.int x4, .int x3]) (rest := []) C hR hS hl.1 vs_X2_63 eu8 (jj_X1_wantedAt l g A M v7 x4 x3 v9 ev9) ⟨rfl, rfl, (Nat.le_of_ble_eq_true rfl), (Nat.le_of_ble_eq_true rfl)⟩ rfl (Nat.le_of_ble_eq_true rfl) ⟨Nat.zero_le _, Nat.zero_le _⟩ rfl dX2_lackOf_47 (fun H locs hR hS => ?_)
        refine lv_iload_n hx hb dX2_lackOf_50 rfl (lv_at hl 1 rfl) ?_
        refine lv_icmp_ne (tgt := 57) hx hb dX2_lackOf_51 (by decide) (fun hc => ?_) (fun hc => ?_)
        · have hf := mm_if0 hc hf
          exact J57 x2 x4 H locs ls hR hS (lv_sub hl [0, 1, 2, 3, 4] rfl) hf
        · have hf := mm_if1 hc hf
          refine lv_iinc (v := (x2 + (1 : Int32))) (lv' := [(2, .int (x2 + (1 : Int32))), (0, .ref x0), (1, .int x1), (3, .int x3), (4, .int x4)]) hx hb dX2_lackOf_54 hl (k := 2) rfl rfl (by decide) rfl (fun ls hl => ?_)
          exact J57 (x2 + (1 : Int32)) x4 H locs ls hR hS (lv_sub hl [1, 2, 0, 3, 4] rfl) hf
  have L4 : ∀ (x0 : Nat) (x1 : Int32) (e1 : Int32 × Int32) (hX : ∀ (x2 : Int32) (x3 : Int32), e1 = (x2, x3) → ∀ (H : Heap) (locs : List Loc) (ls : Array Slot), mm_R g A M H → va_S A s.heap H locs → lv_has ls 5 [(0, .ref x0), (1, .int x1), (2, .int x2)] → W p l e rm_X2_lackOf s m args below meth c H locs 0 0 (MQ below (mm_Ti g A r M) args s 0 0 A) (F0 m 69 ls [])) (n : Nat) (x2 : Int32) (x3 : Int32), mm_it (mm_u2 (ff_X2_lackOf_l4 M x0 x1)) n (x2, x3) = some e1 → ∀ (H : Heap) (locs : List Loc) (ls : Array Slot), mm_R g A M H → va_S A s.heap H locs → lv_has ls 5 [(0, .ref x0), (1, .int x1), (2, .int x2), (3, .int x3)] → W p l e rm_X2_lackOf s m args below meth c H locs 0 0 (MQ below (mm_Ti g A r M) args s 0 0 A) (F0 m 4 ls []) := by
    intro x0 x1 e1 hX n x2 x3 hit
    refine mm_itW (Hd := fun st => ∀ (H : Heap) (locs : List Loc) (ls : Array Slot), mm_R g A M H → va_S A s.heap H locs → lv_has ls 5 [(0, .ref x0), (1, .int x1), (2, .int st.1), (3, .int st.2)] → W p l e rm_X2_lackOf s m args below meth c H locs 0 0 (MQ below (mm_Ti g A r M) args s 0 0 A) (F0 m 4 ls [])) (fun st y hf hin hout => ?_) n (x2, x3) hit
    obtain ⟨x2, x3⟩ := st
    have hf := mm_u2e hf
    intro H locs ls hR hS hl
    unfold ff_X2_lackOf_l4 at hf
    refine lv_iload_n hx hb dX2_lackOf_4 rfl (lv_at hl 3 rfl) ?_
    refine lv_aload_n hx hb dX2_lackOf_5 rfl (lv_at hl 0 rfl) ?_
    obtain ⟨v1, ev1, hf⟩ := mm_bd hf
    refine mm_getR C hR fs_X2_12 ev1 dX2_lackOf_6 ?_
    obtain ⟨v2, ev2, hf⟩ := mm_bd hf
    refine mm_getI C hR fs_X2_72 ev2 dX2_lackOf_9 ?_
    refine lv_icmp_ge (tgt := 69) hx hb dX2_lackOf_12 (by decide) (fun hc => ?_) (fun hc => ?_)
    · have hf := mm_if1 hc hf
      exact hX _ _ (hout _ (Option.some.inj hf).symm).symm H locs ls hR hS (lv_sub hl [0, 1, 2] rfl)
    · have hf := mm_if0 hc hf
      refine lv_iconst (v := 0) hx hb dX2_lackOf_15 (by decide) ?_
      refine lv_istore (lv' := [(4, .int (0 : Int32)), (0, .ref x0), (1, .int x1), (2, .int x2), (3, .int x3)]) hx hb dX2_lackOf_16 hl (by decide) rfl (fun ls hl => ?_)
      obtain ⟨e10, he10, hf⟩ := mm_bd hf
      refine L18 x0 x1 x3 e10 (fun x2_11 x4_12 he => ?_) _ x2 (0 : Int32) he10 H locs ls hR hS (lv_sub hl [1, 2, 3, 4, 0] rfl)
      subst he
      intro H locs ls hR hS hl
      have hf := mm_u2e hf
      refine lv_iinc (v := (x3 + (1 : Int32))) (lv' := [(3, .int (x3 + (1 : Int32))), (0, .ref x0), (1, .int x1), (2, .int x2_11)]) hx hb dX2_lackOf_63 hl (k := 3) rfl rfl (by decide) rfl (fun ls hl => ?_)
      refine lv_goto (tgt := 4) hx hb dX2_lackOf_66 (by decide) ?_
      exact hin _ (Option.some.inj hf).symm H locs ls hR hS (lv_sub hl [1, 2, 3, 0] rfl)
  unfold ff_X2_lackOf at hf
  refine lv_iconst (v := 0) hx hb dX2_lackOf_0 (by decide) ?_
  refine lv_istore_n (lv' := [(2, .int (0 : Int32)), (0, .ref x0), (1, .int x1)]) hx hb dX2_lackOf_1 rfl hl (by decide) rfl (fun ls hl => ?_)
  refine lv_iconst (v := 0) hx hb dX2_lackOf_2 (by decide) ?_
  refine lv_istore_n (lv' := [(3, .int (0 : Int32)), (2, .int (0 : Int32)), (0, .ref x0), (1, .int x1)]) hx hb dX2_lackOf_3 rfl hl (by decide) rfl (fun ls hl => ?_)
  obtain ⟨e13, he13, hf⟩ := mm_bd hf
  refine L4 x0 x1 e13 (fun x2_14 x3_15 he => ?_) _ (0 : Int32) (0 : Int32) he13 H locs ls hR hS (lv_sub hl [2, 3, 1, 0] rfl)
  subst he
  intro H locs ls hR hS hl
  have hf := mm_u2e hf
  refine lv_iload_n hx hb dX2_lackOf_69 rfl (lv_at hl 2 rfl) ?_
  refine lv_aload_n hx hb dX2_lackOf_70 rfl (lv_at hl 0 rfl) ?_
  obtain ⟨v16, ev16, hf⟩ := mm_bd hf
  refine mm_getR C hR fs_X2_21 ev16 dX2_lackOf_71 ?_
  refine lv_iload_n hx hb dX2_lackOf_74 rfl (lv_at hl 1 rfl) ?_
  obtain ⟨u17, eu17, hf⟩ := mm_bd hf
  obtain ⟨v18, ev18, hf⟩ := mm_bd hf
  refine mm_callVi (As := [.int x1]) (rest := [.int x2_14]) C hR hS hl.1 vs_X2_124 eu17 (jj_X3_readyOf l g A M v16 x1 v18 ev18) ⟨rfl, rfl, (Nat.le_of_ble_eq_true rfl), (Nat.le_of_ble_eq_true rfl)⟩ rfl (Nat.le_of_ble_eq_true rfl) ⟨Nat.zero_le _, Nat.zero_le _⟩ rfl dX2_lackOf_75 (fun H locs hR hS => ?_)
  refine lv_isub hx hb dX2_lackOf_78 ?_
  refine lv_iconst (v := 0) hx hb dX2_lackOf_79 (by decide) ?_
  refine mm_max C hl.1 mw_372 mw_373 mw_9 mc_max (Nat.le_of_ble_eq_true rfl) (Nat.le_of_ble_eq_true rfl) ⟨Nat.zero_le _, Nat.zero_le _⟩ dX2_lackOf_80 ?_
  exact mm_ire C hR hS hr ((Option.some.inj hf)) rfl dX2_lackOf_83
