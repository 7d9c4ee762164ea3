def ff_X5_init (sz : Nat) (M : mm_M) (x0 : Nat) : Option mm_M := Option.bind (mm_nI 1 80 sz M) fun M1 => Option.bind (mm_pR 5 M1 x0 0 sz) fun M2 => some M2
def rm_X5_init : Room := { frames := 1, cells := 1, slots := 80, locals := 20 }
set_option maxHeartbeats 4000000 in
set_option maxRecDepth 100000 in
theorem jj_X5_init (l : Launch) (g : mm_G) (A : Nat → Prop) (sz : Nat) (hAn : ∀ q, sz ≤ q → A q) (M : mm_M) (x0 : Nat) (M2 : mm_M) (hf : ff_X5_init sz M x0 = some M2) : Met l yX5_init (mm_ws yX5_init cX5_init 1 (Option.none : Option Jvm.ClassFile.FieldType)) rm_X5_init (va_Pc [.ref x0] (fun U => U.heap.size = sz ∧ mm_B g A M U)) (mm_Tz g A M2 (sz + 1)) 1 80 A := by
  refine mm_met (g := g) (lv := [(0, .ref x0)]) (fun U h => h.2.2) (by decide +kernel) (Nat.le_of_ble_eq_true rfl) rfl ?_
  intro p e s m args below meth c ls C hr hnm hB hl
  obtain ⟨hs0, hR, hK⟩ := hB
  have hz : sz ≤ s.heap.size := Nat.le_of_eq hs0.symm
  have hx := C.1
  have hb := C.2.1
  suffices hmain : ∀ (H : Heap) (locs : List Loc), mm_R g A M H → va_S A s.heap H locs → sz ≤ H.size → W p l e rm_X5_init s m args below meth c H locs 0 0 (MQ below (mm_Tz g A M2 (sz + 1)) args s 1 80 A) (F0 m 0 ls []) from hmain _ _ hR va_S.rf hz
  clear hR hz
  intro H locs hR hS hz
  unfold ff_X5_init at hf
  refine lv_aload_n hx hb dX5_init_0 rfl (lv_at hl 0 rfl) ?_
  refine mm_obj C hl.1 mw_176 mw_17 oc_i (Nat.le_of_ble_eq_true rfl) (Nat.le_of_ble_eq_true rfl) dX5_init_1 ?_
  refine lv_aload_n hx hb dX5_init_4 rfl (lv_at hl 0 rfl) ?_
  refine lv_bipush (v := 80) hx hb dX5_init_5 (by decide) ?_
  obtain ⟨M1, eM1, hf⟩ := mm_bd hf
  refine mm_newAx (z := sz) (cells := 0) (slots := 0) (ty := .char) (N' := 80) C hR hS hs0 hAn hz rfl (sz + 1) 1 80 rfl rfl rfl rfl mw_185 (mm_ht1 C.2.2.2.2.2.1) rfl (by decide) (by decide) (Nat.le_of_ble_eq_true rfl) (Nat.le_of_ble_eq_true rfl) (Nat.le_of_ble_eq_true rfl) eM1 dX5_init_7 (fun H hz hR hS => ?_)
  obtain ⟨M2, eM2, hf⟩ := mm_bd hf
  refine mm_putRz C hR hS hnm ps_X5_9 (fun v => ⟨rfl, rfl⟩) eM2 dX5_init_9 hz (fun H locs hz hR hS => ?_)
  exact mm_vrz C hR hS hr (Option.some.inj hf) hs0 hz rfl dX5_init_12
def ff_X5_isDigit (M : mm_M) (x0 : Int32) : Option Int32 := if x0 < (48 : Int32) then (some (0 : Int32)) else (if (57 : Int32) < x0 then (some (0 : Int32)) else (some (1 : Int32)))
def rm_X5_isDigit : Room := { frames := 0, cells := 0, slots := 0, locals := 0 }
set_option maxHeartbeats 4000000 in
set_option maxRecDepth 100000 in
theorem jj_X5_isDigit (l : Launch) (g : mm_G) (A : Nat → Prop) (M : mm_M) (x0 : Int32) (r : Int32) (hf : ff_X5_isDigit M x0 = some r) : Met l yX5_isDigit (mm_ws yX5_isDigit cX5_isDigit 1 (Option.some Jvm.ClassFile.FieldType.boolean)) rm_X5_isDigit (va_Pc [.int x0] (mm_B g A M)) (mm_Ti g A r M) 0 0 A := by
  refine mm_met (g := g) (lv := [(0, .int x0)]) (fun U h => h.2) (by decide +kernel) (Nat.le_of_ble_eq_true rfl) rfl ?_
  intro p e s m args below meth c ls C hr hnm hB hl
  obtain ⟨hR, hK⟩ := hB
  have hx := C.1
  have hb := C.2.1
  suffices hmain : ∀ (H : Heap) (locs : List Loc), mm_R g A M H → va_S A s.heap H locs → W p l e rm_X5_isDigit s m args below meth c H locs 0 0 (MQ below (mm_Ti g A r M) args s 0 0 A) (F0 m 0 ls []) from hmain _ _ hR va_S.rf
  clear hR
  intro H locs hR hS
  unfold ff_X5_isDigit at hf
  refine lv_iload_n hx hb dX5_isDigit_0 rfl (lv_at hl 0 rfl) ?_
  refine lv_bipush (v := 48) hx hb dX5_isDigit_1 (by decide) ?_
  refine lv_icmp_lt (tgt := 16) hx hb dX5_isDigit_3 (by decide) (fun hc => ?_) (fun hc => ?_)
  · have hf := mm_if1 hc hf
    refine lv_iconst (v := 0) hx hb dX5_isDigit_16 (by decide) ?_
    exact mm_zre C hR hS hr (Or.inl rfl) ((Option.some.inj hf)) rfl dX5_isDigit_17
  · have hf := mm_if0 hc hf
    refine lv_iload_n hx hb dX5_isDigit_6 rfl (lv_at hl 0 rfl) ?_
    refine lv_bipush (v := 57) hx hb dX5_isDigit_7 (by decide) ?_
    refine lv_icmp_gt (tgt := 16) hx hb dX5_isDigit_9 (by decide) (fun hc => ?_) (fun hc => ?_)
    · have hf := mm_if1 hc hf
      refine lv_iconst (v := 0) hx hb dX5_isDigit_16 (by decide) ?_
      exact mm_zre C hR hS hr (Or.inl rfl) ((Option.some.inj hf)) rfl dX5_isDigit_17
    · have hf := mm_if0 hc hf
      refine lv_iconst (v := 1) hx hb dX5_isDigit_12 (by decide) ?_
      refine lv_goto (tgt := 17) hx hb dX5_isDigit_13 (by decide) ?_
      exact mm_zre C hR hS hr (Or.inr rfl) ((Option.some.inj hf)) rfl dX5_isDigit_17
def ff_X5_firstFaultOrNone_j77 (M : mm_M) (x0 : Nat) (x1 : Int32) (x2 : Int32) (x3 : Int32) : Option ((Int32 × Int32 × Int32) ⊕ ((Int32 × Int32 × Int32) ⊕ Int32)) := some (.inl (x1, x2, (x3 + (1 : Int32))))
def ff_X5_firstFaultOrNone_j50 (M : mm_M) (x0 : Nat) (x1 : Int32) (x2 : Int32) (x3 : Int32) (x4 : Int32) : Option ((Int32 × Int32 × Int32) ⊕ ((Int32 × Int32 × Int32) ⊕ Int32)) := if x4 = (44 : Int32) then (if x1 ≤ (0 : Int32) then (some (.inr (.inr x3))) else (if (7 : Int32) ≤ x2 then (some (.inr (.inr x3))) else (ff_X5_firstFaultOrNone_j77 M x0 (0 : Int32) (x2 + (1 : Int32)) x3))) else (some (.inr (.inr x3)))
def ff_X5_firstFaultOrNone_l6  (M : mm_M) (x0 : Nat) (x1 : Int32) (x2 : Int32) (x3 : Int32) : Option ((Int32 × Int32 × Int32) ⊕ ((Int32 × Int32 × Int32) ⊕ Int32)) := Option.bind (mm_gI 5 M x0 1) fun v1 => if v1 ≤ x3 then (some (.inr (.inl (x1, x2, x3)))) else (Option.bind (mm_gR 5 M x0 0) fun v2 => Option.bind (mm_ln M v2) fun v3 => if v3 ≤ x3 then (some (.inr (.inl (x1, x2, x3)))) else (Option.bind (mm_gR 5 M x0 0) fun v4 => Option.bind (mm_aI 1 M v4 x3) fun v5 => Option.bind (ff_X5_isDigit M v5) fun v6 => if v6 = (0 : Int32) then (ff_X5_firstFaultOrNone_j50 M x0 x1 x2 x3 v5) else (if (2 : Int32) ≤ x1 then (ff_X5_firstFaultOrNone_j50 M x0 x1 x2 x3 v5) else (ff_X5_firstFaultOrNone_j77 M x0 (x1 + (1 : Int32)) x2 x3))))
def ff_X5_firstFaultOrNone (M : mm_M) (x0 : Nat) : Option Int32 := Option.bind (mm_it (mm_u3 (ff_X5_firstFaultOrNone_l6 M x0)) mm_fu ((0 : Int32), (0 : Int32), (0 : Int32))) fun e7 => Sum.elim (mm_u3 (fun x1_8 x2_9 x3_10 => if x1_8 = (0 : Int32) then (Option.bind (mm_gI 5 M x0 1) fun v11 => some v11) else (some (-1 : Int32)))) some e7
def rm_X5_firstFaultOrNone : Room := { frames := 1, cells := 0, slots := 0, locals := 20 }
set_option maxHeartbeats 4000000 in
set_option maxRecDepth 100000 in
theorem jj_X5_firstFaultOrNone (l : Launch) (g : mm_G) (A : Nat → Prop) (M : mm_M) (x0 : Nat) (r : Int32) (hf : ff_X5_firstFaultOrNone M x0 = some r) : Met l yX5_firstFaultOrNone (mm_ws yX5_firstFaultOrNone cX5_firstFaultOrNone 5 (Option.some Jvm.ClassFile.FieldType.int)) rm_X5_firstFaultOrNone (va_Pc [.ref x0] (mm_B g A M)) (mm_Ti g A r M) 0 0 A := by
  refine mm_met (g := g) (lv := [(0, .ref x0)]) (fun U h => h.2) (by decide +kernel) (Nat.le_of_ble_eq_true rfl) rfl ?_
  intro p e s m args below meth c ls C hr hnm hB hl
  obtain ⟨hR, hK⟩ := hB
  have hx := C.1
  have hb := C.2.1
  suffices hmain : ∀ (H : Heap) (locs : List Loc), mm_R g A M H → va_S A s.heap H locs → W p l e rm_X5_firstFaultOrNone s m args below meth c H locs 0 0 (MQ below (mm_Ti g A r M) args s 0 0 A) (F0 m 0 ls []) from hmain _ _ hR va_S.rf
  clear hR
  intro H locs hR hS
  have L6 : ∀ (x0 : Nat) (e1 : (Int32 × Int32 × Int32) ⊕ Int32) (hX : ∀ (x1 : Int32) (x2 : Int32) (x3 : Int32), e1 = .inl (x1, x2, x3) → ∀ (H : Heap) (locs : List Loc) (ls : Array Slot), mm_R g A M H → va_S A s.heap H locs → lv_has ls 5 [(0, .ref x0), (1, .int x1)] → W p l e rm_X5_firstFaultOrNone s m args below meth c H locs 0 0 (MQ below (mm_Ti g A r M) args s 0 0 A) (F0 m 83 ls [])) (hY : ∀ (v : Int32), e1 = .inr v → v = r) (n : Nat) (x1 : Int32) (x2 : Int32) (x3 : Int32), mm_it (mm_u3 (ff_X5_firstFaultOrNone_l6 M x0)) n (x1, x2, x3) = some e1 → ∀ (H : Heap) (locs : List Loc) (ls : Array Slot), mm_R g A M H → va_S A s.heap H locs → lv_has ls 5 [(0, .ref x0), (1, .int x1), (2, .int x2), (3, .int x3)] → W p l e rm_X5_firstFaultOrNone s m args below meth c H locs 0 0 (MQ below (mm_Ti g A r M) args s 0 0 A) (F0 m 6 ls []) := by
    intro x0 e1 hX hY n x1 x2 x3 hit
    refine mm_itW (Hd := fun st => ∀ (H : Heap) (locs : List Loc) (ls : Array Slot), mm_R g A M H → va_S A s.heap H locs → lv_has ls 5 [(0, .ref x0), (1, .int st.1), (2, .int st.2.1), (3, .int st.2.2)] → W p l e rm_X5_firstFaultOrNone s m args below meth c H locs 0 0 (MQ below (mm_Ti g A r M) args s 0 0 A) (F0 m 6 ls [])) (fun st y hf hin hout => ?_) n (x1, x2, x3) hit
    obtain ⟨x1, x2, x3⟩ := st
    have hf := mm_u3e hf
    have J77 : ∀ (x1 : Int32) (x2 : Int32) (x3 : Int32) (H : Heap) (locs : List Loc) (ls : Array Slot), mm_R g A M H → va_S A s.heap H locs → lv_has ls 5 [(0, .ref x0), (1, .int x1), (2, .int x2), (3, .int x3)] → ff_X5_firstFaultOrNone_j77 M x0 x1 x2 x3 = some y → W p l e rm_X5_firstFaultOrNone s m args below meth c H locs 0 0 (MQ below (mm_Ti g A r M) args s 0 0 A) (F0 m 77 ls []) := by
      intro x1 x2 x3 H locs ls hR hS hl hf
      unfold ff_X5_firstFaultOrNone_j77 at hf
      refine lv_iinc (v := (x3 + (1 : Int32))) (lv' := [(3, .int (x3 + (1 : Int32))), (0, .ref x0), (1, .int x1), (2, .int x2)]) hx hb dX5_firstFaultOrNone_77 hl (k := 3) rfl rfl (by decide) rfl (fun ls hl => ?_)
      refine lv_goto (tgt := 6) hx hb dX5_firstFaultOrNone_80 (by decide) ?_
      exact hin _ (Option.some.inj hf).symm H locs ls hR hS (lv_sub hl [1, 2, 3, 0] rfl)
    have J50 : ∀ (x1 : Int32) (x2 : Int32) (x3 : Int32) (x4 : Int32) (H : Heap) (locs : List Loc) (ls : Array Slot), mm_R g A M H → va_S A s.heap H locs → lv_has ls 5 [(0, .ref x0), (1, .int x1), (2, .int x2), (3, .int x3), (4, .int x4)] → ff_X5_firstFaultOrNone_j50 M x0 x1 x2 x3 x4 = some y → W p l e rm_X5_firstFaultOrNone s m args below meth c H locs 0 0 (MQ below (mm_Ti g A r M) args s 0 0 A) (F0 m 50 ls []) := by
      intro x1 x2 x3 x4 H locs ls hR hS hl hf
      unfold ff_X5_firstFaultOrNone_j50 at hf
      refine lv_iload hx hb dX5_firstFaultOrNone_50 (lv_at hl 4 rfl) ?_
      refine lv_bipush (v := 44) hx hb dX5_firstFaultOrNone_52 (by decide) ?_
      refine lv_icmp_ne (tgt := 75) hx hb dX5_firstFaultOrNone_54 (by decide) (fun hc => ?_) (fun hc => ?_)
      · have hf := mm_if0 hc hf
        refine lv_iload_n hx hb dX5_firstFaultOrNone_75 rfl (lv_at hl 3 rfl) ?_
        exact mm_ire C hR hS hr ((hY _ (hout _ (Option.some.inj hf).symm).symm)) rfl dX5_firstFaultOrNone_76
      · have hf := mm_if1 hc hf
        refine lv_iload_n hx hb dX5_firstFaultOrNone_57 rfl (lv_at hl 1 rfl) ?_
        refine lv_if_le (tgt := 75) hx hb dX5_firstFaultOrNone_58 (by decide) (fun hc => ?_) (fun hc => ?_)
        · have hf := mm_if1 hc hf
          refine lv_iload_n hx hb dX5_firstFaultOrNone_75 rfl (lv_at hl 3 rfl) ?_
          exact mm_ire C hR hS hr ((hY _ (hout _ (Option.some.inj hf).symm).symm)) rfl dX5_firstFaultOrNone_76
        · have hf := mm_if0 hc hf
          refine lv_iload_n hx hb dX5_firstFaultOrNone_61 rfl (lv_at hl 2 rfl) ?_
          refine lv_bipush (v := 7) hx hb dX5_firstFaultOrNone_62 (by decide) ?_
          refine lv_icmp_ge (tgt := 75) hx hb dX5_firstFaultOrNone_64 (by decide) (fun hc => ?_) (fun hc => ?_)
          · have hf := mm_if1 hc hf
            refine lv_iload_n hx hb dX5_firstFaultOrNone_75 rfl (lv_at hl 3 rfl) ?_
            exact mm_ire C hR hS hr ((hY _ (hout _ (Option.some.inj hf).symm).symm)) rfl dX5_firstFaultOrNone_76
          · have hf := mm_if0 hc hf
            refine lv_iinc (v := (x2 + (1 : Int32))) (lv' := [(2, .int (x2 + (1 : Int32))), (0, .ref x0), (1, .int x1), (3, .int x3), (4, .int x4)]) hx hb dX5_firstFaultOrNone_67 hl (k := 2) rfl rfl (by decide) rfl (fun ls hl => ?_)
            refine lv_iconst (v := 0) hx hb dX5_firstFaultOrNone_70 (by decide) ?_
            refine lv_istore_n (lv' := [(1, .int (0 : Int32)), (2, .int (x2 + (1 : Int32))), (0, .ref x0), (3, .int x3), (4, .int x4)]) hx hb dX5_firstFaultOrNone_71 rfl hl (by decide) rfl (fun ls hl => ?_)
            refine lv_goto (tgt := 77) hx hb dX5_firstFaultOrNone_72 (by decide) ?_
            exact J77 (0 : Int32) (x2 + (1 : Int32)) x3 H locs ls hR hS (lv_sub hl [2, 0, 1, 3] rfl) hf
    intro H locs ls hR hS hl
    unfold ff_X5_firstFaultOrNone_l6 at hf
    refine lv_iload_n hx hb dX5_firstFaultOrNone_6 rfl (lv_at hl 3 rfl) ?_
    refine lv_aload_n hx hb dX5_firstFaultOrNone_7 rfl (lv_at hl 0 rfl) ?_
    obtain ⟨v1, ev1, hf⟩ := mm_bd hf
    refine mm_getI C hR fs_X5_15 ev1 dX5_firstFaultOrNone_8 ?_
    refine lv_icmp_ge (tgt := 83) hx hb dX5_firstFaultOrNone_11 (by decide) (fun hc => ?_) (fun hc => ?_)
    · have hf := mm_if1 hc hf
      exact hX _ _ _ (hout _ (Option.some.inj hf).symm).symm H locs ls hR hS (lv_sub hl [0, 1] rfl)
    · have hf := mm_if0 hc hf
      refine lv_iload_n hx hb dX5_firstFaultOrNone_14 rfl (lv_at hl 3 rfl) ?_
      refine lv_aload_n hx hb dX5_firstFaultOrNone_15 rfl (lv_at hl 0 rfl) ?_
      obtain ⟨v2, ev2, hf⟩ := mm_bd hf
      refine mm_getR C hR fs_X5_9 ev2 dX5_firstFaultOrNone_16 ?_
      obtain ⟨v3, ev3, hf⟩ := mm_bd hf
      refine mm_alen C hR ev3 dX5_firstFaultOrNone_19 ?_
      refine lv_icmp_ge (tgt := 83) hx hb dX5_firstFaultOrNone_20 (by decide) (fun hc => ?_) (fun hc => ?_)
      · have hf := mm_if1 hc hf
        exact hX _ _ _ (hout _ (Option.some.inj hf).symm).symm H locs ls hR hS (lv_sub hl [0, 1] rfl)
      · have hf := mm_if0 hc hf
        refine lv_aload_n hx hb dX5_firstFaultOrNone_23 rfl (lv_at hl 0 rfl) ?_
        obtain ⟨v4, ev4, hf⟩ := mm_bd hf
        refine mm_getR C hR fs_X5_9 ev4 dX5_firstFaultOrNone_24 ?_
        refine lv_iload_n hx hb dX5_firstFaultOrNone_27 rfl (lv_at hl 3 rfl) ?_
        obtain ⟨v5, ev5, hf⟩ := mm_bd hf
        refine mm_cald C hR ev5 dX5_firstFaultOrNone_28 ?_
        refine lv_istore (lv' := [(4, .int v5), (0, .ref x0), (1, .int x1), (2, .int x2), (3, .int x3)]) hx hb dX5_firstFaultOrNone_29 hl (by decide) rfl (fun ls hl => ?_)
        refine lv_iload hx hb dX5_firstFaultOrNone_31 (lv_at hl 0 rfl) ?_
        obtain ⟨v6, ev6, hf⟩ := mm_bd hf
        refine mm_callSi (As := [.int v5]) (rest := []) C hR hS hl.1 ss_X5_19 (jj_X5_isDigit l g A M v5 v6 ev6) ⟨rfl, rfl, (Nat.le_of_ble_eq_true rfl), (Nat.le_of_ble_eq_true rfl)⟩ rfl (Nat.le_of_ble_eq_true rfl) ⟨Nat.zero_le _, Nat.zero_le _⟩ rfl dX5_firstFaultOrNone_33 (fun H locs hR hS => ?_)
        refine lv_if_eq (tgt := 50) hx hb dX5_firstFaultOrNone_36 (by decide) (fun hc => ?_) (fun hc => ?_)
        · have hf := mm_if1 hc hf
          exact J50 x1 x2 x3 v5 H locs ls hR hS (lv_sub hl [1, 2, 3, 4, 0] rfl) hf
        · have hf := mm_if0 hc hf
          refine lv_iload_n hx hb dX5_firstFaultOrNone_39 rfl (lv_at hl 2 rfl) ?_
          refine lv_iconst (v := 2) hx hb dX5_firstFaultOrNone_40 (by decide) ?_
          refine lv_icmp_ge (tgt := 50) hx hb dX5_firstFaultOrNone_41 (by decide) (fun hc => ?_) (fun hc => ?_)
          · have hf := mm_if1 hc hf
            exact J50 x1 x2 x3 v5 H locs ls hR hS (lv_sub hl [1, 2, 3, 4, 0] rfl) hf
          · have hf := mm_if0 hc hf
            refine lv_iinc (v := (x1 + (1 : Int32))) (lv' := [(1, .int (x1 + (1 : Int32))), (4, .int v5), (0, .ref x0), (2, .int x2), (3, .int x3)]) hx hb dX5_firstFaultOrNone_44 hl (k := 2) rfl rfl (by decide) rfl (fun ls hl => ?_)
            refine lv_goto (tgt := 77) hx hb dX5_firstFaultOrNone_47 (by decide) ?_
            exact J77 (x1 + (1 : Int32)) x2 x3 H locs ls hR hS (lv_sub hl [2, 0, 3, 4] rfl) hf
  unfold ff_X5_firstFaultOrNone at hf
  refine lv_iconst (v := 0) hx hb dX5_firstFaultOrNone_0 (by decide) ?_
  refine lv_istore_n (lv' := [(1, .int (0 : Int32)), (0, .ref x0)]) hx hb dX5_firstFaultOrNone_1 rfl hl (by decide) rfl (fun ls hl => ?_)
  refine lv_iconst (v := 0) hx hb dX5_firstFaultOrNone_2 (by decide) ?_
  refine lv_istore_n (lv' := [(2, .int (0 : Int32)), (1, .int (0 : Int32)), (0, .ref x0)]) hx hb dX5_firstFaultOrNone_3 rfl hl (by decide) rfl (fun ls hl => ?_)
  refine lv_iconst (v := 0) hx hb dX5_firstFaultOrNone_4 (by decide) ?_
  refine lv_istore_n (lv' := [(3, .int (0 : Int32)), (2, .int (0 : Int32)), (1, .int (0 : Int32)), (0, .ref x0)]) hx hb dX5_firstFaultOrNone_5 rfl hl (by decide) rfl (fun ls hl => ?_)
  obtain ⟨e7, he7, hf⟩ := mm_bd hf
  refine L6 x0 e7 (fun x1_8 x2_9 x3_10 he => ?_) (fun v he => by subst he; exact Option.some.inj (mm_sr hf)) _ (0 : Int32) (0 : Int32) (0 : Int32) he7 H locs ls hR hS (lv_sub hl [3, 2, 1, 0] rfl)
  subst he
  intro H locs ls hR hS hl
  have hf := mm_sl hf
  have hf := mm_u3e hf
  refine lv_iload_n hx hb dX5_firstFaultOrNone_83 rfl (lv_at hl 1 rfl) ?_
  refine lv_if_ne (tgt := 94) hx hb dX5_firstFaultOrNone_84 (by decide) (fun hc => ?_) (fun hc => ?_)
  · have hf := mm_if0 hc hf
    refine lv_iconst (v := -1) hx hb dX5_firstFaultOrNone_94 (by decide) ?_
    exact mm_ire C hR hS hr ((Option.some.inj hf)) rfl dX5_firstFaultOrNone_95
  · have hf := mm_if1 hc hf
    refine lv_aload_n hx hb dX5_firstFaultOrNone_87 rfl (lv_at hl 0 rfl) ?_
    obtain ⟨v11, ev11, hf⟩ := mm_bd hf
    refine mm_getI C hR fs_X5_15 ev11 dX5_firstFaultOrNone_88 ?_
    refine lv_goto (tgt := 95) hx hb dX5_firstFaultOrNone_91 (by decide) ?_
    exact mm_ire C hR hS hr ((Option.some.inj hf)) rfl dX5_firstFaultOrNone_95
def ff_X5_readShades_j72 (M : mm_M) (x0 : Nat) (x1 : Nat) (x2 : Int32) (x3 : Int32) (x4 : Int32) : Option ((Int32 × Int32 × Int32 × mm_M) ⊕ (Int32 × Int32 × Int32 × mm_M)) := some (.inl (x2, x3, (x4 + (1 : Int32)), M))
def ff_X5_readShades_j62 (M : mm_M) (x0 : Nat) (x1 : Nat) (x2 : Int32) (x3 : Int32) (x4 : Int32) : Option ((Int32 × Int32 × Int32 × mm_M) ⊕ (Int32 × Int32 × Int32 × mm_M)) := Option.bind (mm_ln M x1) fun v8 => if v8 ≤ x2 then (ff_X5_readShades_j72 M x0 x1 x2 x3 x4) else (Option.bind (mm_sI 0 M x1 x2 x3) fun M9 => ff_X5_readShades_j72 M9 x0 x1 x2 x3 x4)
def ff_X5_readShades_l7  (x0 : Nat) (x1 : Nat) (x2 : Int32) (x3 : Int32) (x4 : Int32) (M : mm_M) : Option ((Int32 × Int32 × Int32 × mm_M) ⊕ (Int32 × Int32 × Int32 × mm_M)) := Option.bind (mm_gI 5 M x0 1) fun v1 => if v1 ≤ x4 then (some (.inr (x2, x3, x4, M))) else (Option.bind (mm_gR 5 M x0 0) fun v2 => Option.bind (mm_ln M v2) fun v3 => if v3 ≤ x4 then (some (.inr (x2, x3, x4, M))) else (Option.bind (mm_gR 5 M x0 0) fun v4 => Option.bind (mm_aI 1 M v4 x4) fun v5 => if v5 = (44 : Int32) then (ff_X5_readShades_j62 M x0 x1 (x2 + (1 : Int32)) (0 : Int32) x4) else (Option.bind (mm_gR 5 M x0 0) fun v6 => Option.bind (mm_aI 1 M v6 x4) fun v7 => ff_X5_readShades_j62 M x0 x1 x2 ((x3 * (10 : Int32)) + (v7 - (48 : Int32))) x4)))
def ff_X5_readShades (M : mm_M) (x0 : Nat) (x1 : Nat) : Option ((Int32 × mm_M)) := Option.bind (mm_it (mm_u4 (ff_X5_readShades_l7 x0 x1)) mm_fu ((0 : Int32), (0 : Int32), (0 : Int32), M)) fun e10 => mm_u4 (fun x2_11 x3_12 x4_13 M14 => Option.bind (mm_ln M14 x1) fun v15 => some ((mm_mn (x2_11 + (1 : Int32)) v15), M14)) e10
def rm_X5_readShades : Room := { frames := 1, cells := 0, slots := 0, locals := 21 }
set_option maxHeartbeats 4000000 in
set_option maxRecDepth 100000 in
theorem jj_X5_readShades (l : Launch) (g : mm_G) (A : Nat → Prop) (M : mm_M) (x0 : Nat) (x1 : Nat) (r : Int32) (M2 : mm_M) (hf : ff_X5_readShades M x0 x1 = some (r, M2)) : Met l yX5_readShades (mm_ws yX5_readShades cX5_readShades 5 (Option.some Jvm.ClassFile.FieldType.int)) rm_X5_readShades (va_Pc [.ref x0, .ref x1] (mm_B g A M)) (mm_Ti g A r M2) 0 0 A := by
  refine mm_met (g := g) (lv := [(0, .ref x0), (1, .ref x1)]) (fun U h => h.2) (by decide +kernel) (Nat.le_of_ble_eq_true rfl) rfl ?_
  intro p e s m args below meth c ls C hr hnm hB hl
  obtain ⟨hR, hK⟩ := hB
  have hx := C.1
  have hb := C.2.1
  suffices hmain : ∀ (H : Heap) (locs : List Loc), mm_R g A M H → va_S A s.heap H locs → W p l e rm_X5_readShades s m args below meth c H locs 0 0 (MQ below (mm_Ti g A r M2) args s 0 0 A) (F0 m 0 ls []) from hmain _ _ hR va_S.rf
  clear hR
  intro H locs hR hS
  have L7 : ∀ (x0 : Nat) (x1 : Nat) (e1 : Int32 × Int32 × Int32 × mm_M) (hX : ∀ (x2 : Int32) (x3 : Int32) (x4 : Int32) (M : mm_M), e1 = (x2, x3, x4, M) → ∀ (H : Heap) (locs : List Loc) (ls : Array Slot), mm_R g A M H → va_S A s.heap H locs → lv_has ls 5 [(1, .ref x1), (2, .int x2)] → W p l e rm_X5_readShades s m args below meth c H locs 0 0 (MQ below (mm_Ti g A r M2) args s 0 0 A) (F0 m 78 ls [])) (n : Nat) (x2 : Int32) (x3 : Int32) (x4 : Int32) (M : mm_M), mm_it (mm_u4 (ff_X5_readShades_l7 x0 x1)) n (x2, x3, x4, M) = some e1 → ∀ (H : Heap) (locs : List Loc) (ls : Array Slot), mm_R g A M H → va_S A s.heap H locs → lv_has ls 5 [(0, .ref x0), (1, .ref x1), (2, .int x2), (3, .int x3), (4, .int x4)] → W p l e rm_X5_readShades s m args below meth c H locs 0 0 (MQ below (mm_Ti g A r M2) args s 0 0 A) (F0 m 7 ls []) := by
    intro x0 x1 e1 hX n x2 x3 x4 M hit
    refine mm_itW (Hd := fun st => ∀ (H : Heap) (locs : List Loc) (ls : Array Slot), mm_R g A st.2.2.2 H → va_S A s.heap H locs → lv_has ls 5 [(0, .ref x0), (1, .ref x1), (2, .int st.1), (3, .int st.2.1), (4, .int st.2.2.1)] → W p l e rm_X5_readShades s m args below meth c H locs 0 0 (MQ below (mm_Ti g A r M2) args s 0 0 A) (F0 m 7 ls [])) (fun st y hf hin hout => ?_) n (x2, x3, x4, M) hit
    obtain ⟨x2, x3, x4, M⟩ := st
    have hf := mm_u4e hf
    have J72 : ∀ (M : mm_M) (x2 : Int32) (x3 : Int32) (x4 : Int32) (H : Heap) (locs : List Loc) (ls : Array Slot), mm_R g A M H → va_S A s.heap H locs → lv_has ls 5 [(0, .ref x0), (1, .ref x1), (2, .int x2), (3, .int x3), (4, .int x4)] → ff_X5_readShades_j72 M x0 x1 x2 x3 x4 = some y → W p l e rm_X5_readShades s m args below meth c H locs 0 0 (MQ below (mm_Ti g A r M2) args s 0 0 A) (F0 m 72 ls []) := by
      intro M x2 x3 x4 H locs ls hR hS hl hf
      unfold ff_X5_readShades_j72 at hf
      refine lv_iinc (v := (x4 + (1 : Int32))) (lv' := [(4, .int (x4 + (1 : Int32))), (0, .ref x0), (1, .ref x1), (2, .int x2), (3, .int x3)]) hx hb dX5_readShades_72 hl (k := 4) rfl rfl (by decide) rfl (fun ls hl => ?_)
      refine lv_goto (tgt := 7) hx hb dX5_readShades_75 (by decide) ?_
      exact hin _ (Option.some.inj hf).symm H locs ls hR hS (lv_sub hl [1, 2, 3, 4, 0] rfl)
    have J62 : ∀ (M : mm_M) (x2 : Int32) (x3 : Int32) (x4 : Int32) (H : Heap) (locs : List Loc) (ls : Array Slot), mm_R g A M H → va_S A s.heap H locs → lv_has ls 5 [(0, .ref x0), (1, .ref x1), (2, .int x2), (3, .int x3), (4, .int x4)] → ff_X5_readShades_j62 M x0 x1 x2 x3 x4 = some y → W p l e rm_X5_readShades s m args below meth c H locs 0 0 (MQ below (mm_Ti g A r M2) args s 0 0 A) (F0 m 62 ls []) := by
      intro M x2 x3 x4 H locs ls hR hS hl hf
      unfold ff_X5_readShades_j62 at hf
      refine lv_iload_n hx hb dX5_readShades_62 rfl (lv_at hl 2 rfl) ?_
      refine lv_aload_n hx hb dX5_readShades_63 rfl (lv_at hl 1 rfl) ?_
      obtain ⟨v8, ev8, hf⟩ := mm_bd hf
      refine mm_alen C hR ev8 dX5_readShades_64 ?_
      refine lv_icmp_ge (tgt := 72) hx hb dX5_readShades_65 (by decide) (fun hc => ?_) (fun hc => ?_)
      · have hf := mm_if1 hc hf
        exact J72 M x2 x3 x4 H locs ls hR hS (lv_sub hl [0, 1, 2, 3, 4] rfl) hf
      · have hf := mm_if0 hc hf
        refine lv_aload_n hx hb dX5_readShades_68 rfl (lv_at hl 1 rfl) ?_
        refine lv_iload_n hx hb dX5_readShades_69 rfl (lv_at hl 2 rfl) ?_
        refine lv_iload_n hx hb dX5_readShades_70 rfl (lv_at hl 3 rfl) ?_
        obtain ⟨M9, eM9, hf⟩ := mm_bd hf
        refine mm_iast C hR hS eM9 dX5_readShades_71 (fun H locs hR hS => ?_)
        exact J72 M9 x2 x3 x4 H locs ls hR hS (lv_sub hl [0, 1, 2, 3, 4] rfl) hf
    intro H locs ls hR hS hl
    unfold ff_X5_readShades_l7 at hf
    refine lv_iload hx hb dX5_readShades_7 (lv_at hl 4 rfl) ?_
    refine lv_aload_n hx hb dX5_readShades_9 rfl (lv_at hl 0 rfl) ?_
    obtain ⟨v1, ev1, hf⟩ := mm_bd hf
    refine mm_getI C hR fs_X5_15 ev1 dX5_readShades_10 ?_
    refine lv_icmp_ge (tgt := 78) hx hb dX5_readShades_13 (by decide) (fun hc => ?_) (fun hc => ?_)
    · have hf := mm_if1 hc hf
      exact hX _ _ _ _ (hout _ (Option.some.inj hf).symm).symm H locs ls hR hS (lv_sub hl [1, 2] rfl)
    · have hf := mm_if0 hc hf
      refine lv_iload hx hb dX5_readShades_16 (lv_at hl 4 rfl) ?_
      refine lv_aload_n hx hb dX5_readShades_18 rfl (lv_at hl 0 rfl) ?_
      obtain ⟨v2, ev2, hf⟩ := mm_bd hf
      refine mm_getR C hR fs_X5_9 ev2 dX5_readShades_19 ?_
      obtain ⟨v3, ev3, hf⟩ := mm_bd hf
      refine mm_alen C hR ev3 dX5_readShades_22 ?_
      refine lv_icmp_ge (tgt := 78) hx hb dX5_readShades_23 (by decide) (fun hc => ?_) (fun hc => ?_)
      · have hf := mm_if1 hc hf
        exact hX _ _ _ _ (hout _ (Option.some.inj hf).symm).symm H locs ls hR hS (lv_sub hl [1, 2] rfl)
      · have hf := mm_if0 hc hf
        refine lv_aload_n hx hb dX5_readShades_26 rfl (lv_at hl 0 rfl) ?_
        obtain ⟨v4, ev4, hf⟩ := mm_bd hf
        refine mm_getR C hR fs_X5_9 ev4 dX5_readShades_27 ?_
        refine lv_iload hx hb dX5_readShades_30 (lv_at hl 4 rfl) ?_
        obtain ⟨v5, ev5, hf⟩ := mm_bd hf
        refine mm_cald C hR ev5 dX5_readShades_32 ?_
        refine lv_bipush (v := 44) hx hb dX5_readShades_33 (by decide) ?_
        refine lv_icmp_ne (tgt := 46) hx hb dX5_readShades_35 (by decide) (fun hc => ?_) (fun hc => ?_)
        · have hf := mm_if0 hc hf
          refine lv_iload_n hx hb dX5_readShades_46 rfl (lv_at hl 3 rfl) ?_
          refine lv_bipush (v := 10) hx hb dX5_readShades_47 (by decide) ?_
          refine lv_imul hx hb dX5_readShades_49 ?_
          refine lv_aload_n hx hb dX5_readShades_50 rfl (lv_at hl 0 rfl) ?_
          obtain ⟨v6, ev6, hf⟩ := mm_bd hf
          refine mm_getR C hR fs_X5_9 ev6 dX5_readShades_51 ?_
          refine lv_iload hx hb dX5_readShades_54 (lv_at hl 4 rfl) ?_
          obtain ⟨v7, ev7, hf⟩ := mm_bd hf
          refine mm_cald C hR ev7 dX5_readShades_56 ?_
          refine lv_bipush (v := 48) hx hb dX5_readShades_57 (by decide) ?_
          refine lv_isub hx hb dX5_readShades_59 ?_
          refine lv_iadd hx hb dX5_readShades_60 ?_
          refine lv_istore_n (lv' := [(3, .int ((x3 * (10 : Int32)) + (v7 - (48 : Int32)))), (0, .ref x0), (1, .ref x1), (2, .int x2), (4, .int x4)]) hx hb dX5_readShades_61 rfl hl (by decide) rfl (fun ls hl => ?_)
          exact J62 M x2 ((x3 * (10 : Int32)) + (v7 - (48 : Int32))) x4 H locs ls hR hS (lv_sub hl [1, 2, 3, 0, 4] rfl) hf
        · have hf := mm_if1 hc hf
          refine lv_iinc (v := (x2 + (1 : Int32))) (lv' := [(2, .int (x2 + (1 : Int32))), (0, .ref x0), (1, .ref x1), (3, .int x3), (4, .int x4)]) hx hb dX5_readShades_38 hl (k := 2) rfl rfl (by decide) rfl (fun ls hl => ?_)
          refine lv_iconst (v := 0) hx hb dX5_readShades_41 (by decide) ?_
          refine lv_istore_n (lv' := [(3, .int (0 : Int32)), (2, .int (x2 + (1 : Int32))), (0, .ref x0), (1, .ref x1), (4, .int x4)]) hx hb dX5_readShades_42 rfl hl (by decide) rfl (fun ls hl => ?_)
          refine lv_goto (tgt := 62) hx hb dX5_readShades_43 (by decide) ?_
          exact J62 M (x2 + (1 : Int32)) (0 : Int32) x4 H locs ls hR hS (lv_sub hl [2, 3, 1, 0, 4] rfl) hf
  unfold ff_X5_readShades at hf
  refine lv_iconst (v := 0) hx hb dX5_readShades_0 (by decide) ?_
  refine lv_istore_n (lv' := [(2, .int (0 : Int32)), (0, .ref x0), (1, .ref x1)]) hx hb dX5_readShades_1 rfl hl (by decide) rfl (fun ls hl => ?_)
  refine lv_iconst (v := 0) hx hb dX5_readShades_2 (by decide) ?_
  refine lv_istore_n (lv' := [(3, .int (0 : Int32)), (2, .int (0 : Int32)), (0, .ref x0), (1, .ref x1)]) hx hb dX5_readShades_3 rfl hl (by decide) rfl (fun ls hl => ?_)
  refine lv_iconst (v := 0) hx hb dX5_readShades_4 (by decide) ?_
  refine lv_istore (lv' := [(4, .int (0 : Int32)), (3, .int (0 : Int32)), (2, .int (0 : Int32)), (0, .ref x0), (1, .ref x1)]) hx hb dX5_readShades_5 hl (by decide) rfl (fun ls hl => ?_)
  obtain ⟨e10, he10, hf⟩ := mm_bd hf
  refine L7 x0 x1 e10 (fun x2_11 x3_12 x4_13 M14 he => ?_) _ (0 : Int32) (0 : Int32) (0 : Int32) M he10 H locs ls hR hS (lv_sub hl [3, 4, 2, 1, 0] rfl)
  subst he
  intro H locs ls hR hS hl
  have hf := mm_u4e hf
  refine lv_iload_n hx hb dX5_readShades_78 rfl (lv_at hl 1 rfl) ?_
  refine lv_iconst (v := 1) hx hb dX5_readShades_79 (by decide) ?_
  refine lv_iadd hx hb dX5_readShades_80 ?_
  refine lv_aload_n hx hb dX5_readShades_81 rfl (lv_at hl 0 rfl) ?_
  obtain ⟨v15, ev15, hf⟩ := mm_bd hf
  refine mm_alen C hR ev15 dX5_readShades_82 ?_
  refine mm_min C hl.1 mw_638 mw_309 mw_9 mc_min (Nat.le_of_ble_eq_true rfl) (Nat.le_of_ble_eq_true rfl) ⟨Nat.zero_le _, Nat.zero_le _⟩ dX5_readShades_83 ?_
  exact mm_ire C hR hS hr ((mm_pe hf).1) (mm_pe hf).2 dX5_readShades_86
def ff_X5_append (M : mm_M) (x0 : Nat) (x1 : Int32) : Option mm_M := Option.bind (mm_gI 5 M x0 1) fun v1 => Option.bind (mm_gR 5 M x0 0) fun v2 => Option.bind (mm_ln M v2) fun v3 => if v3 ≤ v1 then (some M) else (Option.bind (mm_gR 5 M x0 0) fun v4 => Option.bind (mm_gI 5 M x0 1) fun v5 => Option.bind (mm_sI 1 M v4 v5 (vp_nar .char (mm_i2c x1))) fun M6 => Option.bind (mm_gI 5 M6 x0 1) fun v7 => Option.bind (mm_pI 5 M6 x0 1 (v7 + (1 : Int32))) fun M8 => some M8)
def rm_X5_append : Room := { frames := 0, cells := 0, slots := 0, locals := 0 }
set_option maxHeartbeats 4000000 in
set_option maxRecDepth 100000 in
theorem jj_X5_append (l : Launch) (g : mm_G) (A : Nat → Prop) (M : mm_M) (x0 : Nat) (x1 : Int32) (M2 : mm_M) (hf : ff_X5_append M x0 x1 = some M2) : Met l yX5_append (mm_ws yX5_append cX5_append 2 (Option.none : Option Jvm.ClassFile.FieldType)) rm_X5_append (va_Pc [.ref x0, .int x1] (mm_B g A M)) (mm_Tv g A M2) 0 0 A := by
  refine mm_met (g := g) (lv := [(0, .ref x0), (1, .int x1)]) (fun U h => h.2) (by decide +kernel) (Nat.le_of_ble_eq_true rfl) rfl ?_
  intro p e s m args below meth c ls C hr hnm hB hl
  obtain ⟨hR, hK⟩ := hB
  have hx := C.1
  have hb := C.2.1
  suffices hmain : ∀ (H : Heap) (locs : List Loc), mm_R g A M H → va_S A s.heap H locs → W p l e rm_X5_append s m args below meth c H locs 0 0 (MQ below (mm_Tv g A M2) args s 0 0 A) (F0 m 0 ls []) from hmain _ _ hR va_S.rf
  clear hR
  intro H locs hR hS
  unfold ff_X5_append at hf
  refine lv_aload_n hx hb dX5_append_0 rfl (lv_at hl 0 rfl) ?_
  obtain ⟨v1, ev1, hf⟩ := mm_bd hf
  refine mm_getI C hR fs_X5_15 ev1 dX5_append_1 ?_
  refine lv_aload_n hx hb dX5_append_4 rfl (lv_at hl 0 rfl) ?_
  obtain ⟨v2, ev2, hf⟩ := mm_bd hf
  refine mm_getR C hR fs_X5_9 ev2 dX5_append_5 ?_
  obtain ⟨v3, ev3, hf⟩ := mm_bd hf
  refine mm_alen C hR ev3 dX5_append_8 ?_
  refine lv_icmp_ge (tgt := 33) hx hb dX5_append_9 (by decide) (fun hc => ?_) (fun hc => ?_)
  · have hf := mm_if1 hc hf
    exact mm_vre C hR hS hr (Option.some.inj hf) dX5_append_33
  · have hf := mm_if0 hc hf
    refine lv_aload_n hx hb dX5_append_12 rfl (lv_at hl 0 rfl) ?_
    obtain ⟨v4, ev4, hf⟩ := mm_bd hf
    refine mm_getR C hR fs_X5_9 ev4 dX5_append_13 ?_
    refine lv_aload_n hx hb dX5_append_16 rfl (lv_at hl 0 rfl) ?_
    obtain ⟨v5, ev5, hf⟩ := mm_bd hf
    refine mm_getI C hR fs_X5_15 ev5 dX5_append_17 ?_
    refine lv_iload_n hx hb dX5_append_20 rfl (lv_at hl 1 rfl) ?_
    refine lv_i2c (v := mm_i2c x1) hx hb dX5_append_21 rfl ?_
    obtain ⟨M6, eM6, hf⟩ := mm_bd hf
    refine mm_cast C hR hS eM6 dX5_append_22 (fun H locs hR hS => ?_)
    refine lv_aload_n hx hb dX5_append_23 rfl (lv_at hl 0 rfl) ?_
    refine lv_dup hx hb dX5_append_24 rfl ?_
    obtain ⟨v7, ev7, hf⟩ := mm_bd hf
    refine mm_getI C hR fs_X5_15 ev7 dX5_append_25 ?_
    refine lv_iconst (v := 1) hx hb dX5_append_28 (by decide) ?_
    refine lv_iadd hx hb dX5_append_29 ?_
    obtain ⟨M8, eM8, hf⟩ := mm_bd hf
    refine mm_putI C hR hS ps_X5_15 eM8 dX5_append_30 (fun H locs hR hS => ?_)
    exact mm_vre C hR hS hr (Option.some.inj hf) dX5_append_33
