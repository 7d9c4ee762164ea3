def ff_X0_init (sz : Nat) (M : mm_M) (x0 : Nat) : Option mm_M := Option.bind (mm_nR 3 5 sz M) fun M1 => Option.bind (mm_pR 0 M1 x0 0 sz) fun M2 => Option.bind (mm_gR 0 M2 x0 0) fun v3 => Option.bind (mm_ln M2 v3) fun v4 => if v4 ≤ (0 : Int32) then none else (Option.bind (mm_gR 0 M2 x0 0) fun v5 => Option.bind (mm_nO 2 [.null, .null, .null, .int 0] (sz + 1) M2) fun M6 => Option.bind (ff_X2_init (sz + 2) M6 (sz + 1)) fun M7 => Option.bind (mm_sR 3 2 M7 v5 (0 : Int32) (sz + 1)) fun M8 => Option.bind (mm_gR 0 M8 x0 0) fun v9 => Option.bind (mm_ln M8 v9) fun v10 => if v10 ≤ (1 : Int32) then none else (Option.bind (mm_gR 0 M8 x0 0) fun v11 => Option.bind (mm_nO 2 [.null, .null, .null, .int 0] (sz + 29) M8) fun M12 => Option.bind (ff_X2_init (sz + 30) M12 (sz + 29)) fun M13 => Option.bind (mm_sR 3 2 M13 v11 (1 : Int32) (sz + 29)) fun M14 => Option.bind (mm_gR 0 M14 x0 0) fun v15 => Option.bind (mm_ln M14 v15) fun v16 => if v16 ≤ (2 : Int32) then none else (Option.bind (mm_gR 0 M14 x0 0) fun v17 => Option.bind (mm_nO 2 [.null, .null, .null, .int 0] (sz + 57) M14) fun M18 => Option.bind (ff_X2_init (sz + 58) M18 (sz + 57)) fun M19 => Option.bind (mm_sR 3 2 M19 v17 (2 : Int32) (sz + 57)) fun M20 => Option.bind (mm_gR 0 M20 x0 0) fun v21 => Option.bind (mm_ln M20 v21) fun v22 => if v22 ≤ (3 : Int32) then none else (Option.bind (mm_gR 0 M20 x0 0) fun v23 => Option.bind (mm_nO 2 [.null, .null, .null, .int 0] (sz + 85) M20) fun M24 => Option.bind (ff_X2_init (sz + 86) M24 (sz + 85)) fun M25 => Option.bind (mm_sR 3 2 M25 v23 (3 : Int32) (sz + 85)) fun M26 => Option.bind (mm_gR 0 M26 x0 0) fun v27 => Option.bind (mm_ln M26 v27) fun v28 => if v28 ≤ (4 : Int32) then none else (Option.bind (mm_gR 0 M26 x0 0) fun v29 => Option.bind (mm_nO 2 [.null, .null, .null, .int 0] (sz + 113) M26) fun M30 => Option.bind (ff_X2_init (sz + 114) M30 (sz + 113)) fun M31 => Option.bind (mm_sR 3 2 M31 v29 (4 : Int32) (sz + 113)) fun M32 => Option.bind (mm_gR 0 M32 x0 0) fun v33 => Option.bind (mm_ln M32 v33) fun v34 => if v34 ≤ (5 : Int32) then (some M32) else none)))))
def rm_X0_init : Room := { frames := 4, cells := 141, slots := 2730, locals := 85 }
set_option maxHeartbeats 4000000 in
set_option maxRecDepth 100000 in
theorem jj_X0_init (l : Launch) (g : mm_G) (A : Nat → Prop) (sz : Nat) (hAn : ∀ q, sz ≤ q → A q) (M : mm_M) (x0 : Nat) (M2 : mm_M) (hf : ff_X0_init sz M x0 = some M2) : Met l yX0_init (mm_ws yX0_init cX0_init 2 (Option.none : Option Jvm.ClassFile.FieldType)) rm_X0_init (va_Pc [.ref x0] (fun U => U.heap.size = sz ∧ mm_B g A M U)) (mm_Tz g A M2 (sz + 141)) 141 2730 A := by
  refine mm_met (g := g) (lv := [(0, .ref x0)]) (fun U h => h.2.2) (by decide +kernel) (Nat.le_of_ble_eq_true rfl) rfl ?_
  intro p e s m args below meth c ls C hr hnm hB hl
  obtain ⟨hs0, hR, hK⟩ := hB
  have hz : sz ≤ s.heap.size := Nat.le_of_eq hs0.symm
  have hx := C.1
  have hb := C.2.1
  suffices hmain : ∀ (H : Heap) (locs : List Loc), mm_R g A M H → va_S A s.heap H locs → sz ≤ H.size → W p l e rm_X0_init s m args below meth c H locs 0 0 (MQ below (mm_Tz g A M2 (sz + 141)) args s 141 2730 A) (F0 m 0 ls []) from hmain _ _ hR va_S.rf hz
  clear hR hz
  intro H locs hR hS hz
  unfold ff_X0_init at hf
  refine lv_aload_n hx hb dX0_init_0 rfl (lv_at hl 0 rfl) ?_
  refine mm_obj C hl.1 mw_160 mw_17 oc_i (Nat.le_of_ble_eq_true rfl) (Nat.le_of_ble_eq_true rfl) dX0_init_1 ?_
  refine lv_aload_n hx hb dX0_init_4 rfl (lv_at hl 0 rfl) ?_
  refine lv_iconst (v := 5) hx hb dX0_init_5 (by decide) ?_
  obtain ⟨M1, eM1, hf⟩ := mm_bd hf
  refine mm_newQx (z := sz) (cells := 0) (slots := 0) (N' := 5) C hR hS hs0 hAn hz rfl (sz + 1) 1 5 rfl rfl rfl mw_161 C.2.2.2.2.2.1.2.2.2.2.2 (mm_ht3 C.2.2.2.2.2.1) (by decide) (by decide) (Nat.le_of_ble_eq_true rfl) (Nat.le_of_ble_eq_true rfl) (Nat.le_of_ble_eq_true rfl) eM1 dX0_init_6 (fun H hz hR hS => ?_)
  obtain ⟨M2, eM2, hf⟩ := mm_bd hf
  refine mm_putRz C hR hS hnm ps_X0_11 (fun v => ⟨rfl, rfl⟩) eM2 dX0_init_9 hz (fun H locs hz hR hS => ?_)
  refine lv_iconst (v := 0) hx hb dX0_init_12 (by decide) ?_
  refine lv_istore_n (lv' := [(1, .int (0 : Int32)), (0, .ref x0)]) hx hb dX0_init_13 rfl hl (by decide) rfl (fun ls hl => ?_)
  refine lv_iload_n hx hb dX0_init_14 rfl (lv_at hl 0 rfl) ?_
  refine lv_aload_n hx hb dX0_init_15 rfl (lv_at hl 1 rfl) ?_
  obtain ⟨v3, ev3, hf⟩ := mm_bd hf
  refine mm_getR C hR fs_X0_11 ev3 dX0_init_16 ?_
  obtain ⟨v4, ev4, hf⟩ := mm_bd hf
  refine mm_alen C hR ev4 dX0_init_19 ?_
  refine lv_icmp_ge (tgt := 42) hx hb dX0_init_20 (by decide) (fun hc => ?_) (fun hc => ?_)
  · cases (mm_if1 hc hf)
  · have hf := mm_if0 hc hf
    refine lv_aload_n hx hb dX0_init_23 rfl (lv_at hl 1 rfl) ?_
    obtain ⟨v5, ev5, hf⟩ := mm_bd hf
    refine mm_getR C hR fs_X0_11 ev5 dX0_init_24 ?_
    refine lv_iload_n hx hb dX0_init_27 rfl (lv_at hl 0 rfl) ?_
    obtain ⟨M6, eM6, hf⟩ := mm_bd hf
    refine mm_newOx (z := (sz + 1)) (cells := 1) (slots := 5) C hR hS hs0 hAn hz rfl (sz + 2) 2 9 rfl rfl rfl tyX2 rfl iw_2 tyX2_ok mw_161 mw_20 mw_2 df_2 (Nat.le_of_ble_eq_true rfl) (Nat.le_of_ble_eq_true rfl) eM6 dX0_init_28 (fun H hz hR hS => ?_)
    refine lv_dup hx hb dX0_init_31 rfl ?_
    obtain ⟨M7, eM7, hf⟩ := mm_bd hf
    refine mm_callIx (As := []) (rest := [.ref (sz + 1), .int (0 : Int32), .ref v5]) (cells := 2) (slots := 9) (sz := (sz + 2)) C hR hS hl.1 hs0 hz rfl (sz + 29) 29 550 (by omega) rfl rfl is_X0_17 (jj_X2_init l g A (sz + 2) (fun q h => hAn q (by omega)) M6 (sz + 1) M7 eM7) ⟨rfl, rfl, (Nat.le_of_ble_eq_true rfl), (Nat.le_of_ble_eq_true rfl)⟩ rfl (Nat.le_of_ble_eq_true rfl) ⟨(Nat.le_of_ble_eq_true rfl), (Nat.le_of_ble_eq_true rfl)⟩ rfl dX0_init_32 (fun H locs hz hR hS => ?_)
    obtain ⟨M8, eM8, hf⟩ := mm_bd hf
    refine mm_aastz C hR hS (r := (RX2, TX2, 4)) rfl (fun _ => rfl) eM8 dX0_init_35 hz (fun H locs hz hR hS => ?_)
    refine lv_iinc (v := (1 : Int32)) (lv' := [(1, .int (1 : Int32)), (0, .ref x0)]) hx hb dX0_init_36 hl (k := 0) rfl (by decide) (by decide) rfl (fun ls hl => ?_)
    refine lv_goto (tgt := 14) hx hb dX0_init_39 (by decide) ?_
    refine lv_iload_n hx hb dX0_init_14 rfl (lv_at hl 0 rfl) ?_
    refine lv_aload_n hx hb dX0_init_15 rfl (lv_at hl 1 rfl) ?_
    obtain ⟨v9, ev9, hf⟩ := mm_bd hf
    refine mm_getR C hR fs_X0_11 ev9 dX0_init_16 ?_
    obtain ⟨v10, ev10, hf⟩ := mm_bd hf
    refine mm_alen C hR ev10 dX0_init_19 ?_
    refine lv_icmp_ge (tgt := 42) hx hb dX0_init_20 (by decide) (fun hc => ?_) (fun hc => ?_)
    · cases (mm_if1 hc hf)
    · have hf := mm_if0 hc hf
      refine lv_aload_n hx hb dX0_init_23 rfl (lv_at hl 1 rfl) ?_
      obtain ⟨v11, ev11, hf⟩ := mm_bd hf
      refine mm_getR C hR fs_X0_11 ev11 dX0_init_24 ?_
      refine lv_iload_n hx hb dX0_init_27 rfl (lv_at hl 0 rfl) ?_
      obtain ⟨M12, eM12, hf⟩ := mm_bd hf
      refine mm_newOx (z := (sz + 29)) (cells := 29) (slots := 550) C hR hS hs0 hAn hz rfl (sz + 30) 30 554 rfl rfl rfl tyX2 rfl iw_2 tyX2_ok mw_161 mw_20 mw_2 df_2 (Nat.le_of_ble_eq_true rfl) (Nat.le_of_ble_eq_true rfl) eM12 dX0_init_28 (fun H hz hR hS => ?_)
      refine lv_dup hx hb dX0_init_31 rfl ?_
      obtain ⟨M13, eM13, hf⟩ := mm_bd hf
      refine mm_callIx (As := []) (rest := [.ref (sz + 29), .int (1 : Int32), .ref v11]) (cells := 30) (slots := 554) (sz := (sz + 30)) C hR hS hl.1 hs0 hz rfl (sz + 57) 57 1095 (by omega) rfl rfl is_X0_17 (jj_X2_init l g A (sz + 30) (fun q h => hAn q (by omega)) M12 (sz + 29) M13 eM13) ⟨rfl, rfl, (Nat.le_of_ble_eq_true rfl), (Nat.le_of_ble_eq_true rfl)⟩ rfl (Nat.le_of_ble_eq_true rfl) ⟨(Nat.le_of_ble_eq_true rfl), (Nat.le_of_ble_eq_true rfl)⟩ rfl dX0_init_32 (fun H locs hz hR hS => ?_)
      obtain ⟨M14, eM14, hf⟩ := mm_bd hf
      refine mm_aastz C hR hS (r := (RX2, TX2, 4)) rfl (fun _ => rfl) eM14 dX0_init_35 hz (fun H locs hz hR hS => ?_)
      refine lv_iinc (v := (2 : Int32)) (lv' := [(1, .int (2 : Int32)), (0, .ref x0)]) hx hb dX0_init_36 hl (k := 0) rfl (by decide) (by decide) rfl (fun ls hl => ?_)
      refine lv_goto (tgt := 14) hx hb dX0_init_39 (by decide) ?_
      refine lv_iload_n hx hb dX0_init_14 rfl (lv_at hl 0 rfl) ?_
      refine lv_aload_n hx hb dX0_init_15 rfl (lv_at hl 1 rfl) ?_
      obtain ⟨v15, ev15, hf⟩ := mm_bd hf
      refine mm_getR C hR fs_X0_11 ev15 dX0_init_16 ?_
      obtain ⟨v16, ev16, hf⟩ := mm_bd hf
      refine mm_alen C hR ev16 dX0_init_19 ?_
      refine lv_icmp_ge (tgt := 42) hx hb dX0_init_20 (by decide) (fun hc => ?_) (fun hc => ?_)
      · cases (mm_if1 hc hf)
      · have hf := mm_if0 hc hf
        refine lv_aload_n hx hb dX0_init_23 rfl (lv_at hl 1 rfl) ?_
        obtain ⟨v17, ev17, hf⟩ := mm_bd hf
        refine mm_getR C hR fs_X0_11 ev17 dX0_init_24 ?_
        refine lv_iload_n hx hb dX0_init_27 rfl (lv_at hl 0 rfl) ?_
        obtain ⟨M18, eM18, hf⟩ := mm_bd hf
        refine mm_newOx (z := (sz + 57)) (cells := 57) (slots := 1095) C hR hS hs0 hAn hz rfl (sz + 58) 58 1099 rfl rfl rfl tyX2 rfl iw_2 tyX2_ok mw_161 mw_20 mw_2 df_2 (Nat.le_of_ble_eq_true rfl) (Nat.le_of_ble_eq_true rfl) eM18 dX0_init_28 (fun H hz hR hS => ?_)
        refine lv_dup hx hb dX0_init_31 rfl ?_
        obtain ⟨M19, eM19, hf⟩ := mm_bd hf
        refine mm_callIx (As := []) (rest := [.ref (sz + 57), .int (2 : Int32), .ref v17]) (cells := 58) (slots := 1099) (sz := (sz + 58)) C hR hS hl.1 hs0 hz rfl (sz + 85) 85 1640 (by omega) rfl rfl is_X0_17 (jj_X2_init l g A (sz + 58) (fun q h => hAn q (by omega)) M18 (sz + 57) M19 eM19) ⟨rfl, rfl, (Nat.le_of_ble_eq_true rfl), (Nat.le_of_ble_eq_true rfl)⟩ rfl (Nat.le_of_ble_eq_true rfl) ⟨(Nat.le_of_ble_eq_true rfl), (Nat.le_of_ble_eq_true rfl)⟩ rfl dX0_init_32 (fun H locs hz hR hS => ?_)
        obtain ⟨M20, eM20, hf⟩ := mm_bd hf
        refine mm_aastz C hR hS (r := (RX2, TX2, 4)) rfl (fun _ => rfl) eM20 dX0_init_35 hz (fun H locs hz hR hS => ?_)
        refine lv_iinc (v := (3 : Int32)) (lv' := [(1, .int (3 : Int32)), (0, .ref x0)]) hx hb dX0_init_36 hl (k := 0) rfl (by decide) (by decide) rfl (fun ls hl => ?_)
        refine lv_goto (tgt := 14) hx hb dX0_init_39 (by decide) ?_
        refine lv_iload_n hx hb dX0_init_14 rfl (lv_at hl 0 rfl) ?_
        refine lv_aload_n hx hb dX0_init_15 rfl (lv_at hl 1 rfl) ?_
        obtain ⟨v21, ev21, hf⟩ := mm_bd hf
        refine mm_getR C hR fs_X0_11 ev21 dX0_init_16 ?_
        obtain ⟨v22, ev22, hf⟩ := mm_bd hf
        refine mm_alen C hR ev22 dX0_init_19 ?_
        refine lv_icmp_ge (tgt := 42) hx hb dX0_init_20 (by decide) (fun hc => ?_) (fun hc => ?_)
        · cases (mm_if1 hc hf)
        · have hf := mm_if0 hc hf
          refine lv_aload_n hx hb dX0_init_23 rfl (lv_at hl 1 rfl) ?_
          obtain ⟨v23, ev23, hf⟩ := mm_bd hf
          refine mm_getR C hR fs_X0_11 ev23 dX0_init_24 ?_
          refine lv_iload_n hx hb dX0_init_27 rfl (lv_at hl 0 rfl) ?_
          obtain ⟨M24, eM24, hf⟩ := mm_bd hf
          refine mm_newOx (z := (sz + 85)) (cells := 85) (slots := 1640) C hR hS hs0 hAn hz rfl (sz + 86) 86 1644 rfl rfl rfl tyX2 rfl iw_2 tyX2_ok mw_161 mw_20 mw_2 df_2 (Nat.le_of_ble_eq_true rfl) (Nat.le_of_ble_eq_true rfl) eM24 dX0_init_28 (fun H hz hR hS => ?_)
          refine lv_dup hx hb dX0_init_31 rfl ?_
          obtain ⟨M25, eM25, hf⟩ := mm_bd hf
          refine mm_callIx (As := []) (rest := [.ref (sz + 85), .int (3 : Int32), .ref v23]) (cells := 86) (slots := 1644) (sz := (sz + 86)) C hR hS hl.1 hs0 hz rfl (sz + 113) 113 2185 (by omega) rfl rfl is_X0_17 (jj_X2_init l g A (sz + 86) (fun q h => hAn q (by omega)) M24 (sz + 85) M25 eM25) ⟨rfl, rfl, (Nat.le_of_ble_eq_true rfl), (Nat.le_of_ble_eq_true rfl)⟩ rfl (Nat.le_of_ble_eq_true rfl) ⟨(Nat.le_of_ble_eq_true rfl), (Nat.le_of_ble_eq_true rfl)⟩ rfl dX0_init_32 (fun H locs hz hR hS => ?_)
          obtain ⟨M26, eM26, hf⟩ := mm_bd hf
          refine mm_aastz C hR hS (r := (RX2, TX2, 4)) rfl (fun _ => rfl) eM26 dX0_init_35 hz (fun H locs hz hR hS => ?_)
          refine lv_iinc (v := (4 : Int32)) (lv' := [(1, .int (4 : Int32)), (0, .ref x0)]) hx hb dX0_init_36 hl (k := 0) rfl (by decide) (by decide) rfl (fun ls hl => ?_)
          refine lv_goto (tgt := 14) hx hb dX0_init_39 (by decide) ?_
          refine lv_iload_n hx hb dX0_init_14 rfl (lv_at hl 0 rfl) ?_
          refine lv_aload_n hx hb dX0_init_15 rfl (lv_at hl 1 rfl) ?_
          obtain ⟨v27, ev27, hf⟩ := mm_bd hf
          refine mm_getR C hR fs_X0_11 ev27 dX0_init_16 ?_
          obtain ⟨v28, ev28, hf⟩ := mm_bd hf
          refine mm_alen C hR ev28 dX0_init_19 ?_
          refine lv_icmp_ge (tgt := 42) hx hb dX0_init_20 (by decide) (fun hc => ?_) (fun hc => ?_)
          · cases (mm_if1 hc hf)
          · have hf := mm_if0 hc hf
            refine lv_aload_n hx hb dX0_init_23 rfl (lv_at hl 1 rfl) ?_
            obtain ⟨v29, ev29, hf⟩ := mm_bd hf
            refine mm_getR C hR fs_X0_11 ev29 dX0_init_24 ?_
            refine lv_iload_n hx hb dX0_init_27 rfl (lv_at hl 0 rfl) ?_
            obtain ⟨M30, eM30, hf⟩ := mm_bd hf
            refine mm_newOx (z := (sz + 113)) (cells := 113) (slots := 2185) C hR hS hs0 hAn hz rfl (sz + 114) 114 2189 rfl rfl rfl tyX2 rfl iw_2 tyX2_ok mw_161 mw_20 mw_2 df_2 (Nat.le_of_ble_eq_true rfl) (Nat.le_of_ble_eq_true rfl) eM30 dX0_init_28 (fun H hz hR hS => ?_)
            refine lv_dup hx hb dX0_init_31 rfl ?_
            obtain ⟨M31, eM31, hf⟩ := mm_bd hf
            refine mm_callIx (As := []) (rest := [.ref (sz + 113), .int (4 : Int32), .ref v29]) (cells := 114) (slots := 2189) (sz := (sz + 114)) C hR hS hl.1 hs0 hz rfl (sz + 141) 141 2730 (by omega) rfl rfl is_X0_17 (jj_X2_init l g A (sz + 114) (fun q h => hAn q (by omega)) M30 (sz + 113) M31 eM31) ⟨rfl, rfl, (Nat.le_of_ble_eq_true rfl), (Nat.le_of_ble_eq_true rfl)⟩ rfl (Nat.le_of_ble_eq_true rfl) ⟨(Nat.le_of_ble_eq_true rfl), (Nat.le_of_ble_eq_true rfl)⟩ rfl dX0_init_32 (fun H locs hz hR hS => ?_)
            obtain ⟨M32, eM32, hf⟩ := mm_bd hf
            refine mm_aastz C hR hS (r := (RX2, TX2, 4)) rfl (fun _ => rfl) eM32 dX0_init_35 hz (fun H locs hz hR hS => ?_)
            refine lv_iinc (v := (5 : Int32)) (lv' := [(1, .int (5 : Int32)), (0, .ref x0)]) hx hb dX0_init_36 hl (k := 0) rfl (by decide) (by decide) rfl (fun ls hl => ?_)
            refine lv_goto (tgt := 14) hx hb dX0_init_39 (by decide) ?_
            refine lv_iload_n hx hb dX0_init_14 rfl (lv_at hl 0 rfl) ?_
            refine lv_aload_n hx hb dX0_init_15 rfl (lv_at hl 1 rfl) ?_
            obtain ⟨v33, ev33, hf⟩ := mm_bd hf
            refine mm_getR C hR fs_X0_11 ev33 dX0_init_16 ?_
            obtain ⟨v34, ev34, hf⟩ := mm_bd hf
            refine mm_alen C hR ev34 dX0_init_19 ?_
            refine lv_icmp_ge (tgt := 42) hx hb dX0_init_20 (by decide) (fun hc => ?_) (fun hc => ?_)
            · have hf := mm_if1 hc hf
              exact mm_vrz C hR hS hr (Option.some.inj hf) hs0 hz rfl dX0_init_42
            · cases (mm_if0 hc hf)
def ff_X0_dropOldest_l2  (x0 : Nat) (x1 : Int32) (M : mm_M) : Option ((Int32 × mm_M) ⊕ (Int32 × mm_M)) := Option.bind (mm_gR 0 M x0 0) fun v1 => Option.bind (mm_ln M v1) fun v2 => if v2 ≤ x1 then (some (.inr (x1, M))) else (Option.bind (mm_gR 0 M x0 0) fun v3 => Option.bind (mm_aR 3 M v3 (x1 - (1 : Int32))) fun v4 => Option.bind (mm_gR 0 M x0 0) fun v5 => Option.bind (mm_gR 0 M x0 0) fun v6 => Option.bind (mm_aR 3 M v6 x1) fun v7 => Option.bind (mm_sR 3 2 M v5 (x1 - (1 : Int32)) v7) fun M8 => Option.bind (mm_gR 0 M8 x0 0) fun v9 => Option.bind (mm_sR 3 2 M8 v9 x1 v4) fun M10 => some (.inl ((x1 + (1 : Int32)), M10)))
def ff_X0_dropOldest (M : mm_M) (x0 : Nat) : Option mm_M := Option.bind (mm_it (mm_u2 (ff_X0_dropOldest_l2 x0)) mm_fu ((1 : Int32), M)) fun e11 => mm_u2 (fun x1_12 M13 => Option.bind (mm_gI 0 M13 x0 1) fun v14 => Option.bind (mm_pI 0 M13 x0 1 (v14 - (1 : Int32))) fun M15 => some M15) e11
def rm_X0_dropOldest : Room := { frames := 0, cells := 0, slots := 0, locals := 0 }
set_option maxHeartbeats 4000000 in
set_option maxRecDepth 100000 in
theorem jj_X0_dropOldest (l : Launch) (g : mm_G) (A : Nat → Prop) (M : mm_M) (x0 : Nat) (M2 : mm_M) (hf : ff_X0_dropOldest M x0 = some M2) : Met l yX0_dropOldest (mm_ws yX0_dropOldest cX0_dropOldest 3 (Option.none : Option Jvm.ClassFile.FieldType)) rm_X0_dropOldest (va_Pc [.ref x0] (mm_B g A M)) (mm_Tv g A M2) 0 0 A := by
  refine mm_met (g := g) (lv := [(0, .ref x0)]) (fun U h => h.2) (by decide +kernel) (Nat.le_of_ble_eq_true rfl) rfl ?_
  intro p e s m args below meth c ls C hr hnm hB hl
  obtain ⟨hR, hK⟩ := hB
  have hx := C.1
  have hb := C.2.1
  suffices hmain : ∀ (H : Heap) (locs : List Loc), mm_R g A M H → va_S A s.heap H locs → W p l e rm_X0_dropOldest s m args below meth c H locs 0 0 (MQ below (mm_Tv g A M2) args s 0 0 A) (F0 m 0 ls []) from hmain _ _ hR va_S.rf
  clear hR
  intro H locs hR hS
  have L2 : ∀ (x0 : Nat) (e1 : Int32 × mm_M) (hX : ∀ (x1 : Int32) (M : mm_M), e1 = (x1, M) → ∀ (H : Heap) (locs : List Loc) (ls : Array Slot), mm_R g A M H → va_S A s.heap H locs → lv_has ls 3 [(0, .ref x0)] → W p l e rm_X0_dropOldest s m args below meth c H locs 0 0 (MQ below (mm_Tv g A M2) args s 0 0 A) (F0 m 47 ls [])) (n : Nat) (x1 : Int32) (M : mm_M), mm_it (mm_u2 (ff_X0_dropOldest_l2 x0)) n (x1, M) = some e1 → ∀ (H : Heap) (locs : List Loc) (ls : Array Slot), mm_R g A M H → va_S A s.heap H locs → lv_has ls 3 [(0, .ref x0), (1, .int x1)] → W p l e rm_X0_dropOldest s m args below meth c H locs 0 0 (MQ below (mm_Tv g A M2) args s 0 0 A) (F0 m 2 ls []) := by
    intro x0 e1 hX n x1 M hit
    refine mm_itW (Hd := fun st => ∀ (H : Heap) (locs : List Loc) (ls : Array Slot), mm_R g A st.2 H → va_S A s.heap H locs → lv_has ls 3 [(0, .ref x0), (1, .int st.1)] → W p l e rm_X0_dropOldest s m args below meth c H locs 0 0 (MQ below (mm_Tv g A M2) args s 0 0 A) (F0 m 2 ls [])) (fun st y hf hin hout => ?_) n (x1, M) hit
    obtain ⟨x1, M⟩ := st
    have hf := mm_u2e hf
    intro H locs ls hR hS hl
    unfold ff_X0_dropOldest_l2 at hf
    refine lv_iload_n hx hb dX0_dropOldest_2 rfl (lv_at hl 1 rfl) ?_
    refine lv_aload_n hx hb dX0_dropOldest_3 rfl (lv_at hl 0 rfl) ?_
    obtain ⟨v1, ev1, hf⟩ := mm_bd hf
    refine mm_getR C hR fs_X0_11 ev1 dX0_dropOldest_4 ?_
    obtain ⟨v2, ev2, hf⟩ := mm_bd hf
    refine mm_alen C hR ev2 dX0_dropOldest_7 ?_
    refine lv_icmp_ge (tgt := 47) hx hb dX0_dropOldest_8 (by decide) (fun hc => ?_) (fun hc => ?_)
    · have hf := mm_if1 hc hf
      exact hX _ _ (hout _ (Option.some.inj hf).symm).symm H locs ls hR hS (lv_sub hl [0] rfl)
    · have hf := mm_if0 hc hf
      refine lv_aload_n hx hb dX0_dropOldest_11 rfl (lv_at hl 0 rfl) ?_
      obtain ⟨v3, ev3, hf⟩ := mm_bd hf
      refine mm_getR C hR fs_X0_11 ev3 dX0_dropOldest_12 ?_
      refine lv_iload_n hx hb dX0_dropOldest_15 rfl (lv_at hl 1 rfl) ?_
      refine lv_iconst (v := 1) hx hb dX0_dropOldest_16 (by decide) ?_
      refine lv_isub hx hb dX0_dropOldest_17 ?_
      obtain ⟨v4, ev4, hf⟩ := mm_bd hf
      refine mm_aald C hR (fun _ => rfl) ev4 dX0_dropOldest_18 ?_
      refine lv_astore_n (lv' := [(2, .ref v4), (0, .ref x0), (1, .int x1)]) hx hb dX0_dropOldest_19 rfl hl (by decide) rfl (fun ls hl => ?_)
      refine lv_aload_n hx hb dX0_dropOldest_20 rfl (lv_at hl 1 rfl) ?_
      obtain ⟨v5, ev5, hf⟩ := mm_bd hf
      refine mm_getR C hR fs_X0_11 ev5 dX0_dropOldest_21 ?_
      refine lv_iload_n hx hb dX0_dropOldest_24 rfl (lv_at hl 2 rfl) ?_
      refine lv_iconst (v := 1) hx hb dX0_dropOldest_25 (by decide) ?_
      refine lv_isub hx hb dX0_dropOldest_26 ?_
      refine lv_aload_n hx hb dX0_dropOldest_27 rfl (lv_at hl 1 rfl) ?_
      obtain ⟨v6, ev6, hf⟩ := mm_bd hf
      refine mm_getR C hR fs_X0_11 ev6 dX0_dropOldest_28 ?_
      refine lv_iload_n hx hb dX0_dropOldest_31 rfl (lv_at hl 2 rfl) ?_
      obtain ⟨v7, ev7, hf⟩ := mm_bd hf
      refine mm_aald C hR (fun _ => rfl) ev7 dX0_dropOldest_32 ?_
      obtain ⟨M8, eM8, hf⟩ := mm_bd hf
      refine mm_aast C hR hS (r := (RX2, TX2, 4)) rfl (fun _ => rfl) eM8 dX0_dropOldest_33 (fun H locs hR hS => ?_)
      refine lv_aload_n hx hb dX0_dropOldest_34 rfl (lv_at hl 1 rfl) ?_
      obtain ⟨v9, ev9, hf⟩ := mm_bd hf
      refine mm_getR C hR fs_X0_11 ev9 dX0_dropOldest_35 ?_
      refine lv_iload_n hx hb dX0_dropOldest_38 rfl (lv_at hl 2 rfl) ?_
      refine lv_aload_n hx hb dX0_dropOldest_39 rfl (lv_at hl 0 rfl) ?_
      obtain ⟨M10, eM10, hf⟩ := mm_bd hf
      refine mm_aast C hR hS (r := (RX2, TX2, 4)) rfl (fun _ => rfl) eM10 dX0_dropOldest_40 (fun H locs hR hS => ?_)
      refine lv_iinc (v := (x1 + (1 : Int32))) (lv' := [(1, .int (x1 + (1 : Int32))), (2, .ref v4), (0, .ref x0)]) hx hb dX0_dropOldest_41 hl (k := 2) rfl rfl (by decide) rfl (fun ls hl => ?_)
      refine lv_goto (tgt := 2) hx hb dX0_dropOldest_44 (by decide) ?_
      exact hin _ (Option.some.inj hf).symm H locs ls hR hS (lv_sub hl [2, 0] rfl)
  unfold ff_X0_dropOldest at hf
  refine lv_iconst (v := 1) hx hb dX0_dropOldest_0 (by decide) ?_
  refine lv_istore_n (lv' := [(1, .int (1 : Int32)), (0, .ref x0)]) hx hb dX0_dropOldest_1 rfl hl (by decide) rfl (fun ls hl => ?_)
  obtain ⟨e11, he11, hf⟩ := mm_bd hf
  refine L2 x0 e11 (fun x1_12 M13 he => ?_) _ (1 : Int32) M he11 H locs ls hR hS (lv_sub hl [1, 0] rfl)
  subst he
  intro H locs ls hR hS hl
  have hf := mm_u2e hf
  refine lv_aload_n hx hb dX0_dropOldest_47 rfl (lv_at hl 0 rfl) ?_
  refine lv_dup hx hb dX0_dropOldest_48 rfl ?_
  obtain ⟨v14, ev14, hf⟩ := mm_bd hf
  refine mm_getI C hR fs_X0_18 ev14 dX0_dropOldest_49 ?_
  refine lv_iconst (v := 1) hx hb dX0_dropOldest_52 (by decide) ?_
  refine lv_isub hx hb dX0_dropOldest_53 ?_
  obtain ⟨M15, eM15, hf⟩ := mm_bd hf
  refine mm_putI C hR hS ps_X0_18 eM15 dX0_dropOldest_54 (fun H locs hR hS => ?_)
  exact mm_vre C hR hS hr (Option.some.inj hf) dX0_dropOldest_57
def ff_X0_keep_j16 (M : mm_M) (x0 : Nat) (x1 : Nat) : Option (mm_M) := Option.bind (mm_gI 0 M x0 1) fun v4 => if v4 < (0 : Int32) then (some M) else (Option.bind (mm_gI 0 M x0 1) fun v5 => Option.bind (mm_gR 0 M x0 0) fun v6 => Option.bind (mm_ln M v6) fun v7 => if v7 ≤ v5 then (some M) else (Option.bind (mm_gR 0 M x0 0) fun v8 => Option.bind (mm_gI 0 M x0 1) fun v9 => Option.bind (mm_aR 3 M v8 v9) fun v10 => Option.bind (mm_ck 2 M v10) fun u11 => Option.bind (ff_X2_copyFrom M v10 x1) fun M12 => Option.bind (mm_gI 0 M12 x0 1) fun v13 => Option.bind (mm_pI 0 M12 x0 1 (v13 + (1 : Int32))) fun M14 => some M14))
def ff_X0_keep (M : mm_M) (x0 : Nat) (x1 : Nat) : Option mm_M := Option.bind (mm_gI 0 M x0 1) fun v1 => Option.bind (mm_gR 0 M x0 0) fun v2 => Option.bind (mm_ln M v2) fun v3 => if v1 < v3 then (ff_X0_keep_j16 M x0 x1) else (Option.bind (mm_ck 0 M x0) fun u15 => Option.bind (ff_X0_dropOldest M x0) fun M16 => ff_X0_keep_j16 M16 x0 x1)
def rm_X0_keep : Room := { frames := 4, cells := 0, slots := 0, locals := 90 }
set_option maxHeartbeats 4000000 in
set_option maxRecDepth 100000 in
theorem jj_X0_keep (l : Launch) (g : mm_G) (A : Nat → Prop) (M : mm_M) (x0 : Nat) (x1 : Nat) (M2 : mm_M) (hf : ff_X0_keep M x0 x1 = some M2) : Met l yX0_keep (mm_ws yX0_keep cX0_keep 2 (Option.none : Option Jvm.ClassFile.FieldType)) rm_X0_keep (va_Pc [.ref x0, .ref x1] (mm_B g A M)) (mm_Tv g A M2) 0 0 A := by
  refine mm_met (g := g) (lv := [(0, .ref x0), (1, .ref x1)]) (fun U h => h.2) (by decide +kernel) (Nat.le_of_ble_eq_true rfl) rfl ?_
  intro p e s m args below meth c ls C hr hnm hB hl
  obtain ⟨hR, hK⟩ := hB
  have hx := C.1
  have hb := C.2.1
  suffices hmain : ∀ (H : Heap) (locs : List Loc), mm_R g A M H → va_S A s.heap H locs → W p l e rm_X0_keep s m args below meth c H locs 0 0 (MQ below (mm_Tv g A M2) args s 0 0 A) (F0 m 0 ls []) from hmain _ _ hR va_S.rf
  clear hR
  intro H locs hR hS
  have J16 : ∀ (M : mm_M) (x0 : Nat) (x1 : Nat) (H : Heap) (locs : List Loc) (ls : Array Slot), mm_R g A M H → va_S A s.heap H locs → lv_has ls 2 [(0, .ref x0), (1, .ref x1)] → ff_X0_keep_j16 M x0 x1 = some M2 → W p l e rm_X0_keep s m args below meth c H locs 0 0 (MQ below (mm_Tv g A M2) args s 0 0 A) (F0 m 16 ls []) := by
    intro M x0 x1 H locs ls hR hS hl hf
    unfold ff_X0_keep_j16 at hf
    refine lv_aload_n hx hb dX0_keep_16 rfl (lv_at hl 0 rfl) ?_
    obtain ⟨v4, ev4, hf⟩ := mm_bd hf
    refine mm_getI C hR fs_X0_18 ev4 dX0_keep_17 ?_
    refine lv_if_lt (tgt := 58) hx hb dX0_keep_20 (by decide) (fun hc => ?_) (fun hc => ?_)
    · have hf := mm_if1 hc hf
      exact mm_vre C hR hS hr (Option.some.inj hf) dX0_keep_58
    · have hf := mm_if0 hc hf
      refine lv_aload_n hx hb dX0_keep_23 rfl (lv_at hl 0 rfl) ?_
      obtain ⟨v5, ev5, hf⟩ := mm_bd hf
      refine mm_getI C hR fs_X0_18 ev5 dX0_keep_24 ?_
      refine lv_aload_n hx hb dX0_keep_27 rfl (lv_at hl 0 rfl) ?_
      obtain ⟨v6, ev6, hf⟩ := mm_bd hf
      refine mm_getR C hR fs_X0_11 ev6 dX0_keep_28 ?_
      obtain ⟨v7, ev7, hf⟩ := mm_bd hf
      refine mm_alen C hR ev7 dX0_keep_31 ?_
      refine lv_icmp_ge (tgt := 58) hx hb dX0_keep_32 (by decide) (fun hc => ?_) (fun hc => ?_)
      · have hf := mm_if1 hc hf
        exact mm_vre C hR hS hr (Option.some.inj hf) dX0_keep_58
      · have hf := mm_if0 hc hf
        refine lv_aload_n hx hb dX0_keep_35 rfl (lv_at hl 0 rfl) ?_
        obtain ⟨v8, ev8, hf⟩ := mm_bd hf
        refine mm_getR C hR fs_X0_11 ev8 dX0_keep_36 ?_
        refine lv_aload_n hx hb dX0_keep_39 rfl (lv_at hl 0 rfl) ?_
        obtain ⟨v9, ev9, hf⟩ := mm_bd hf
        refine mm_getI C hR fs_X0_18 ev9 dX0_keep_40 ?_
        obtain ⟨v10, ev10, hf⟩ := mm_bd hf
        refine mm_aald C hR (fun _ => rfl) ev10 dX0_keep_43 ?_
        refine lv_aload_n hx hb dX0_keep_44 rfl (lv_at hl 1 rfl) ?_
        obtain ⟨u11, eu11, hf⟩ := mm_bd hf
        obtain ⟨M12, eM12, hf⟩ := mm_bd hf
        refine mm_callVv (As := [.ref x1]) (rest := []) C hR hS hl.1 vs_X0_25 eu11 (jj_X2_copyFrom l g A M v10 x1 M12 eM12) ⟨rfl, rfl, (Nat.le_of_ble_eq_true rfl), (Nat.le_of_ble_eq_true rfl)⟩ rfl (Nat.le_of_ble_eq_true rfl) ⟨Nat.zero_le _, Nat.zero_le _⟩ rfl dX0_keep_45 (fun H locs hR hS => ?_)
        refine lv_aload_n hx hb dX0_keep_48 rfl (lv_at hl 0 rfl) ?_
        refine lv_dup hx hb dX0_keep_49 rfl ?_
        obtain ⟨v13, ev13, hf⟩ := mm_bd hf
        refine mm_getI C hR fs_X0_18 ev13 dX0_keep_50 ?_
        refine lv_iconst (v := 1) hx hb dX0_keep_53 (by decide) ?_
        refine lv_iadd hx hb dX0_keep_54 ?_
        obtain ⟨M14, eM14, hf⟩ := mm_bd hf
        refine mm_putI C hR hS ps_X0_18 eM14 dX0_keep_55 (fun H locs hR hS => ?_)
        exact mm_vre C hR hS hr (Option.some.inj hf) dX0_keep_58
  unfold ff_X0_keep at hf
  refine lv_aload_n hx hb dX0_keep_0 rfl (lv_at hl 0 rfl) ?_
  obtain ⟨v1, ev1, hf⟩ := mm_bd hf
  refine mm_getI C hR fs_X0_18 ev1 dX0_keep_1 ?_
  refine lv_aload_n hx hb dX0_keep_4 rfl (lv_at hl 0 rfl) ?_
  obtain ⟨v2, ev2, hf⟩ := mm_bd hf
  refine mm_getR C hR fs_X0_11 ev2 dX0_keep_5 ?_
  obtain ⟨v3, ev3, hf⟩ := mm_bd hf
  refine mm_alen C hR ev3 dX0_keep_8 ?_
  refine lv_icmp_lt (tgt := 16) hx hb dX0_keep_9 (by decide) (fun hc => ?_) (fun hc => ?_)
  · have hf := mm_if1 hc hf
    exact J16 M x0 x1 H locs ls hR hS (lv_sub hl [0, 1] rfl) hf
  · have hf := mm_if0 hc hf
    refine lv_aload_n hx hb dX0_keep_12 rfl (lv_at hl 0 rfl) ?_
    obtain ⟨u15, eu15, hf⟩ := mm_bd hf
    obtain ⟨M16, eM16, hf⟩ := mm_bd hf
    refine mm_callVv (As := []) (rest := []) C hR hS hl.1 vs_X0_22 eu15 (jj_X0_dropOldest l g A M x0 M16 eM16) ⟨rfl, rfl, (Nat.le_of_ble_eq_true rfl), (Nat.le_of_ble_eq_true rfl)⟩ rfl (Nat.le_of_ble_eq_true rfl) ⟨Nat.zero_le _, Nat.zero_le _⟩ rfl dX0_keep_13 (fun H locs hR hS => ?_)
    exact J16 M16 x0 x1 H locs ls hR hS (lv_sub hl [0, 1] rfl) hf
def ff_X0_states (M : mm_M) (x0 : Nat) : Option Int32 := Option.bind (mm_gI 0 M x0 1) fun v1 => some v1
def rm_X0_states : Room := { frames := 0, cells := 0, slots := 0, locals := 0 }
set_option maxHeartbeats 4000000 in
set_option maxRecDepth 100000 in
theorem jj_X0_states (l : Launch) (g : mm_G) (A : Nat → Prop) (M : mm_M) (x0 : Nat) (r : Int32) (hf : ff_X0_states M x0 = some r) : Met l yX0_states (mm_ws yX0_states cX0_states 1 (Option.some Jvm.ClassFile.FieldType.int)) rm_X0_states (va_Pc [.ref x0] (mm_B g A M)) (mm_Ti g A r M) 0 0 A := by
  refine mm_met (g := g) (lv := [(0, .ref x0)]) (fun U h => h.2) (by decide +kernel) (Nat.le_of_ble_eq_true rfl) rfl ?_
  intro p e s m args below meth c ls C hr hnm hB hl
  obtain ⟨hR, hK⟩ := hB
  have hx := C.1
  have hb := C.2.1
  suffices hmain : ∀ (H : Heap) (locs : List Loc), mm_R g A M H → va_S A s.heap H locs → W p l e rm_X0_states s m args below meth c H locs 0 0 (MQ below (mm_Ti g A r M) args s 0 0 A) (F0 m 0 ls []) from hmain _ _ hR va_S.rf
  clear hR
  intro H locs hR hS
  unfold ff_X0_states at hf
  refine lv_aload_n hx hb dX0_states_0 rfl (lv_at hl 0 rfl) ?_
  obtain ⟨v1, ev1, hf⟩ := mm_bd hf
  refine mm_getI C hR fs_X0_18 ev1 dX0_states_1 ?_
  exact mm_ire C hR hS hr ((Option.some.inj hf)) rfl dX0_states_4
def ff_X0_restore (M : mm_M) (x0 : Nat) (x1 : Nat) : Option mm_M := Option.bind (mm_gI 0 M x0 1) fun v1 => if v1 ≤ (0 : Int32) then (some M) else (Option.bind (mm_gI 0 M x0 1) fun v2 => Option.bind (mm_gR 0 M x0 0) fun v3 => Option.bind (mm_ln M v3) fun v4 => if v4 < v2 then (some M) else (Option.bind (mm_gI 0 M x0 1) fun v5 => Option.bind (mm_pI 0 M x0 1 (v5 - (1 : Int32))) fun M6 => Option.bind (mm_gR 0 M6 x0 0) fun v7 => Option.bind (mm_gI 0 M6 x0 1) fun v8 => Option.bind (mm_aR 3 M6 v7 v8) fun v9 => Option.bind (mm_ck 2 M6 x1) fun u10 => Option.bind (ff_X2_copyFrom M6 x1 v9) fun M11 => some M11))
def rm_X0_restore : Room := { frames := 4, cells := 0, slots := 0, locals := 90 }
set_option maxHeartbeats 4000000 in
set_option maxRecDepth 100000 in
theorem jj_X0_restore (l : Launch) (g : mm_G) (A : Nat → Prop) (M : mm_M) (x0 : Nat) (x1 : Nat) (M2 : mm_M) (hf : ff_X0_restore M x0 x1 = some M2) : Met l yX0_restore (mm_ws yX0_restore cX0_restore 2 (Option.none : Option Jvm.ClassFile.FieldType)) rm_X0_restore (va_Pc [.ref x0, .ref x1] (mm_B g A M)) (mm_Tv g A M2) 0 0 A := by
  refine mm_met (g := g) (lv := [(0, .ref x0), (1, .ref x1)]) (fun U h => h.2) (by decide +kernel) (Nat.le_of_ble_eq_true rfl) rfl ?_
  intro p e s m args below meth c ls C hr hnm hB hl
  obtain ⟨hR, hK⟩ := hB
  have hx := C.1
  have hb := C.2.1
  suffices hmain : ∀ (H : Heap) (locs : List Loc), mm_R g A M H → va_S A s.heap H locs → W p l e rm_X0_restore s m args below meth c H locs 0 0 (MQ below (mm_Tv g A M2) args s 0 0 A) (F0 m 0 ls []) from hmain _ _ hR va_S.rf
  clear hR
  intro H locs hR hS
  unfold ff_X0_restore at hf
  refine lv_aload_n hx hb dX0_restore_0 rfl (lv_at hl 0 rfl) ?_
  obtain ⟨v1, ev1, hf⟩ := mm_bd hf
  refine mm_getI C hR fs_X0_18 ev1 dX0_restore_1 ?_
  refine lv_if_le (tgt := 42) hx hb dX0_restore_4 (by decide) (fun hc => ?_) (fun hc => ?_)
  · have hf := mm_if1 hc hf
    exact mm_vre C hR hS hr (Option.some.inj hf) dX0_restore_42
  · have hf := mm_if0 hc hf
    refine lv_aload_n hx hb dX0_restore_7 rfl (lv_at hl 0 rfl) ?_
    obtain ⟨v2, ev2, hf⟩ := mm_bd hf
    refine mm_getI C hR fs_X0_18 ev2 dX0_restore_8 ?_
    refine lv_aload_n hx hb dX0_restore_11 rfl (lv_at hl 0 rfl) ?_
    obtain ⟨v3, ev3, hf⟩ := mm_bd hf
    refine mm_getR C hR fs_X0_11 ev3 dX0_restore_12 ?_
    obtain ⟨v4, ev4, hf⟩ := mm_bd hf
    refine mm_alen C hR ev4 dX0_restore_15 ?_
    refine lv_icmp_gt (tgt := 42) hx hb dX0_restore_16 (by decide) (fun hc => ?_) (fun hc => ?_)
    · have hf := mm_if1 hc hf
      exact mm_vre C hR hS hr (Option.some.inj hf) dX0_restore_42
    · have hf := mm_if0 hc hf
      refine lv_aload_n hx hb dX0_restore_19 rfl (lv_at hl 0 rfl) ?_
      refine lv_dup hx hb dX0_restore_20 rfl ?_
      obtain ⟨v5, ev5, hf⟩ := mm_bd hf
      refine mm_getI C hR fs_X0_18 ev5 dX0_restore_21 ?_
      refine lv_iconst (v := 1) hx hb dX0_restore_24 (by decide) ?_
      refine lv_isub hx hb dX0_restore_25 ?_
      obtain ⟨M6, eM6, hf⟩ := mm_bd hf
      refine mm_putI C hR hS ps_X0_18 eM6 dX0_restore_26 (fun H locs hR hS => ?_)
      refine lv_aload_n hx hb dX0_restore_29 rfl (lv_at hl 1 rfl) ?_
      refine lv_aload_n hx hb dX0_restore_30 rfl (lv_at hl 0 rfl) ?_
      obtain ⟨v7, ev7, hf⟩ := mm_bd hf
      refine mm_getR C hR fs_X0_11 ev7 dX0_restore_31 ?_
      refine lv_aload_n hx hb dX0_restore_34 rfl (lv_at hl 0 rfl) ?_
      obtain ⟨v8, ev8, hf⟩ := mm_bd hf
      refine mm_getI C hR fs_X0_18 ev8 dX0_restore_35 ?_
      obtain ⟨v9, ev9, hf⟩ := mm_bd hf
      refine mm_aald C hR (fun _ => rfl) ev9 dX0_restore_38 ?_
      obtain ⟨u10, eu10, hf⟩ := mm_bd hf
      obtain ⟨M11, eM11, hf⟩ := mm_bd hf
      refine mm_callVv (As := [.ref v9]) (rest := []) C hR hS hl.1 vs_X0_25 eu10 (jj_X2_copyFrom l g A M6 x1 v9 M11 eM11) ⟨rfl, rfl, (Nat.le_of_ble_eq_true rfl), (Nat.le_of_ble_eq_true rfl)⟩ rfl (Nat.le_of_ble_eq_true rfl) ⟨Nat.zero_le _, Nat.zero_le _⟩ rfl dX0_restore_39 (fun H locs hR hS => ?_)
      exact mm_vre C hR hS hr (Option.some.inj hf) dX0_restore_42
