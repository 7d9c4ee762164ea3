def ff_X3_init (sz : Nat) (M : mm_M) (x0 : Nat) : Option mm_M := Option.bind (mm_nR 2 10 sz M) fun M1 => Option.bind (mm_pR 3 M1 x0 0 sz) fun M2 => Option.bind (mm_nI 0 100 (sz + 1) M2) fun M3 => Option.bind (mm_pR 3 M3 x0 1 (sz + 1)) fun M4 => Option.bind (mm_pI 3 M4 x0 3 (20 : Int32)) fun M5 => Option.bind (mm_pI 3 M5 x0 4 (2 : Int32)) fun M6 => Option.bind (mm_gR 3 M6 x0 0) fun v7 => Option.bind (mm_ln M6 v7) fun v8 => if v8 ≤ (0 : Int32) then none else (Option.bind (mm_gR 3 M6 x0 0) fun v9 => Option.bind (mm_nO 4 [.null, .int 0, .int 0, .int 0, .int 0, .int 0] (sz + 2) M6) fun M10 => Option.bind (ff_X4_init (sz + 3) M10 (sz + 2)) fun M11 => Option.bind (mm_sR 2 4 M11 v9 (0 : Int32) (sz + 2)) fun M12 => Option.bind (mm_gR 3 M12 x0 0) fun v13 => Option.bind (mm_ln M12 v13) fun v14 => if v14 ≤ (1 : Int32) then none else (Option.bind (mm_gR 3 M12 x0 0) fun v15 => Option.bind (mm_nO 4 [.null, .int 0, .int 0, .int 0, .int 0, .int 0] (sz + 4) M12) fun M16 => Option.bind (ff_X4_init (sz + 5) M16 (sz + 4)) fun M17 => Option.bind (mm_sR 2 4 M17 v15 (1 : Int32) (sz + 4)) fun M18 => Option.bind (mm_gR 3 M18 x0 0) fun v19 => Option.bind (mm_ln M18 v19) fun v20 => if v20 ≤ (2 : Int32) then none else (Option.bind (mm_gR 3 M18 x0 0) fun v21 => Option.bind (mm_nO 4 [.null, .int 0, .int 0, .int 0, .int 0, .int 0] (sz + 6) M18) fun M22 => Option.bind (ff_X4_init (sz + 7) M22 (sz + 6)) fun M23 => Option.bind (mm_sR 2 4 M23 v21 (2 : Int32) (sz + 6)) fun M24 => Option.bind (mm_gR 3 M24 x0 0) fun v25 => Option.bind (mm_ln M24 v25) fun v26 => if v26 ≤ (3 : Int32) then none else (Option.bind (mm_gR 3 M24 x0 0) fun v27 => Option.bind (mm_nO 4 [.null, .int 0, .int 0, .int 0, .int 0, .int 0] (sz + 8) M24) fun M28 => Option.bind (ff_X4_init (sz + 9) M28 (sz + 8)) fun M29 => Option.bind (mm_sR 2 4 M29 v27 (3 : Int32) (sz + 8)) fun M30 => Option.bind (mm_gR 3 M30 x0 0) fun v31 => Option.bind (mm_ln M30 v31) fun v32 => if v32 ≤ (4 : Int32) then none else (Option.bind (mm_gR 3 M30 x0 0) fun v33 => Option.bind (mm_nO 4 [.null, .int 0, .int 0, .int 0, .int 0, .int 0] (sz + 10) M30) fun M34 => Option.bind (ff_X4_init (sz + 11) M34 (sz + 10)) fun M35 => Option.bind (mm_sR 2 4 M35 v33 (4 : Int32) (sz + 10)) fun M36 => Option.bind (mm_gR 3 M36 x0 0) fun v37 => Option.bind (mm_ln M36 v37) fun v38 => if v38 ≤ (5 : Int32) then none else (Option.bind (mm_gR 3 M36 x0 0) fun v39 => Option.bind (mm_nO 4 [.null, .int 0, .int 0, .int 0, .int 0, .int 0] (sz + 12) M36) fun M40 => Option.bind (ff_X4_init (sz + 13) M40 (sz + 12)) fun M41 => Option.bind (mm_sR 2 4 M41 v39 (5 : Int32) (sz + 12)) fun M42 => Option.bind (mm_gR 3 M42 x0 0) fun v43 => Option.bind (mm_ln M42 v43) fun v44 => if v44 ≤ (6 : Int32) then none else (Option.bind (mm_gR 3 M42 x0 0) fun v45 => Option.bind (mm_nO 4 [.null, .int 0, .int 0, .int 0, .int 0, .int 0] (sz + 14) M42) fun M46 => Option.bind (ff_X4_init (sz + 15) M46 (sz + 14)) fun M47 => Option.bind (mm_sR 2 4 M47 v45 (6 : Int32) (sz + 14)) fun M48 => Option.bind (mm_gR 3 M48 x0 0) fun v49 => Option.bind (mm_ln M48 v49) fun v50 => if v50 ≤ (7 : Int32) then none else (Option.bind (mm_gR 3 M48 x0 0) fun v51 => Option.bind (mm_nO 4 [.null, .int 0, .int 0, .int 0, .int 0, .int 0] (sz + 16) M48) fun M52 => Option.bind (ff_X4_init (sz + 17) M52 (sz + 16)) fun M53 => Option.bind (mm_sR 2 4 M53 v51 (7 : Int32) (sz + 16)) fun M54 => Option.bind (mm_gR 3 M54 x0 0) fun v55 => Option.bind (mm_ln M54 v55) fun v56 => if v56 ≤ (8 : Int32) then none else (Option.bind (mm_gR 3 M54 x0 0) fun v57 => Option.bind (mm_nO 4 [.null, .int 0, .int 0, .int 0, .int 0, .int 0] (sz + 18) M54) fun M58 => Option.bind (ff_X4_init (sz + 19) M58 (sz + 18)) fun M59 => Option.bind (mm_sR 2 4 M59 v57 (8 : Int32) (sz + 18)) fun M60 => Option.bind (mm_gR 3 M60 x0 0) fun v61 => Option.bind (mm_ln M60 v61) fun v62 => if v62 ≤ (9 : Int32) then none else (Option.bind (mm_gR 3 M60 x0 0) fun v63 => Option.bind (mm_nO 4 [.null, .int 0, .int 0, .int 0, .int 0, .int 0] (sz + 20) M60) fun M64 => Option.bind (ff_X4_init (sz + 21) M64 (sz + 20)) fun M65 => Option.bind (mm_sR 2 4 M65 v63 (9 : Int32) (sz + 20)) fun M66 => Option.bind (mm_gR 3 M66 x0 0) fun v67 => Option.bind (mm_ln M66 v67) fun v68 => if v68 ≤ (10 : Int32) then (some M66) else none))))))))))
def rm_X3_init : Room := { frames := 2, cells := 22, slots := 230, locals := 40 }
set_option maxHeartbeats 4000000 in
set_option maxRecDepth 100000 in
theorem jj_X3_init (l : Launch) (g : mm_G) (A : Nat → Prop) (sz : Nat) (hAn : ∀ q, sz ≤ q → A q) (M : mm_M) (x0 : Nat) (M2 : mm_M) (hf : ff_X3_init sz M x0 = some M2) : Met l yX3_init (mm_ws yX3_init cX3_init 2 (Option.none : Option Jvm.ClassFile.FieldType)) rm_X3_init (va_Pc [.ref x0] (fun U => U.heap.size = sz ∧ mm_B g A M U)) (mm_Tz g A M2 (sz + 22)) 22 230 A := by
  refine mm_met (g := g) (lv := [(0, .ref x0)]) (fun U h => h.2.2) (by decide +kernel) (Nat.le_of_ble_eq_true rfl) rfl ?_
  intro p e s m args below meth c ls C hr hnm hB hl
  obtain ⟨hs0, hR, hK⟩ := hB
  have hz : sz ≤ s.heap.size := Nat.le_of_eq hs0.symm
  have hx := C.1
  have hb := C.2.1
  suffices hmain : ∀ (H : Heap) (locs : List Loc), mm_R g A M H → va_S A s.heap H locs → sz ≤ H.size → W p l e rm_X3_init s m args below meth c H locs 0 0 (MQ below (mm_Tz g A M2 (sz + 22)) args s 22 230 A) (F0 m 0 ls []) from hmain _ _ hR va_S.rf hz
  clear hR hz
  intro H locs hR hS hz
  unfold ff_X3_init at hf
  refine lv_aload_n hx hb dX3_init_0 rfl (lv_at hl 0 rfl) ?_
  refine mm_obj C hl.1 mw_69 mw_17 oc_i (Nat.le_of_ble_eq_true rfl) (Nat.le_of_ble_eq_true rfl) dX3_init_1 ?_
  refine lv_aload_n hx hb dX3_init_4 rfl (lv_at hl 0 rfl) ?_
  refine lv_bipush (v := 10) hx hb dX3_init_5 (by decide) ?_
  obtain ⟨M1, eM1, hf⟩ := mm_bd hf
  refine mm_newQx (z := sz) (cells := 0) (slots := 0) (N' := 10) C hR hS hs0 hAn hz rfl (sz + 1) 1 10 rfl rfl rfl mw_70 C.2.2.2.2.2.1.2.2.2.2.1 (mm_ht2 C.2.2.2.2.2.1) (by decide) (by decide) (Nat.le_of_ble_eq_true rfl) (Nat.le_of_ble_eq_true rfl) (Nat.le_of_ble_eq_true rfl) eM1 dX3_init_7 (fun H hz hR hS => ?_)
  obtain ⟨M2, eM2, hf⟩ := mm_bd hf
  refine mm_putRz C hR hS hnm ps_X3_11 (fun v => ⟨rfl, rfl⟩) eM2 dX3_init_10 hz (fun H locs hz hR hS => ?_)
  refine lv_aload_n hx hb dX3_init_13 rfl (lv_at hl 0 rfl) ?_
  refine lv_bipush (v := 100) hx hb dX3_init_14 (by decide) ?_
  obtain ⟨M3, eM3, hf⟩ := mm_bd hf
  refine mm_newAx (z := (sz + 1)) (cells := 1) (slots := 10) (ty := .int) (N' := 100) C hR hS hs0 hAn hz rfl (sz + 2) 2 110 rfl rfl rfl rfl mw_63 (mm_ht0 C.2.2.2.2.2.1) rfl (by decide) (by decide) (Nat.le_of_ble_eq_true rfl) (Nat.le_of_ble_eq_true rfl) (Nat.le_of_ble_eq_true rfl) eM3 dX3_init_16 (fun H hz hR hS => ?_)
  obtain ⟨M4, eM4, hf⟩ := mm_bd hf
  refine mm_putRz C hR hS hnm ps_X3_17 (fun v => ⟨rfl, rfl⟩) eM4 dX3_init_18 hz (fun H locs hz hR hS => ?_)
  refine lv_aload_n hx hb dX3_init_21 rfl (lv_at hl 0 rfl) ?_
  refine lv_bipush (v := 20) hx hb dX3_init_22 (by decide) ?_
  obtain ⟨M5, eM5, hf⟩ := mm_bd hf
  refine mm_putIz C hR hS ps_X3_21 eM5 dX3_init_24 hz (fun H locs hz hR hS => ?_)
  refine lv_aload_n hx hb dX3_init_27 rfl (lv_at hl 0 rfl) ?_
  refine lv_iconst (v := 2) hx hb dX3_init_28 (by decide) ?_
  obtain ⟨M6, eM6, hf⟩ := mm_bd hf
  refine mm_putIz C hR hS ps_X3_25 eM6 dX3_init_29 hz (fun H locs hz hR hS => ?_)
  refine lv_iconst (v := 0) hx hb dX3_init_32 (by decide) ?_
  refine lv_istore_n (lv' := [(1, .int (0 : Int32)), (0, .ref x0)]) hx hb dX3_init_33 rfl hl (by decide) rfl (fun ls hl => ?_)
  refine lv_iload_n hx hb dX3_init_34 rfl (lv_at hl 0 rfl) ?_
  refine lv_aload_n hx hb dX3_init_35 rfl (lv_at hl 1 rfl) ?_
  obtain ⟨v7, ev7, hf⟩ := mm_bd hf
  refine mm_getR C hR fs_X3_11 ev7 dX3_init_36 ?_
  obtain ⟨v8, ev8, hf⟩ := mm_bd hf
  refine mm_alen C hR ev8 dX3_init_39 ?_
  refine lv_icmp_ge (tgt := 62) hx hb dX3_init_40 (by decide) (fun hc => ?_) (fun hc => ?_)
  · cases (mm_if1 hc hf)
  · have hf := mm_if0 hc hf
    refine lv_aload_n hx hb dX3_init_43 rfl (lv_at hl 1 rfl) ?_
    obtain ⟨v9, ev9, hf⟩ := mm_bd hf
    refine mm_getR C hR fs_X3_11 ev9 dX3_init_44 ?_
    refine lv_iload_n hx hb dX3_init_47 rfl (lv_at hl 0 rfl) ?_
    obtain ⟨M10, eM10, hf⟩ := mm_bd hf
    refine mm_newOx (z := (sz + 2)) (cells := 2) (slots := 110) C hR hS hs0 hAn hz rfl (sz + 3) 3 116 rfl rfl rfl tyX4 rfl iw_4 tyX4_ok mw_70 mw_72 mw_6 df_4 (Nat.le_of_ble_eq_true rfl) (Nat.le_of_ble_eq_true rfl) eM10 dX3_init_48 (fun H hz hR hS => ?_)
    refine lv_dup hx hb dX3_init_51 rfl ?_
    obtain ⟨M11, eM11, hf⟩ := mm_bd hf
    refine mm_callINx (As := []) (rest := [.ref (sz + 2), .int (0 : Int32), .ref v9]) (cells := 3) (slots := 116) (sz := (sz + 3)) C hR hS hl.1 hs0 hz rfl (sz + 4) 4 122 (by omega) rfl rfl C.2.2.2.2.2.1.2.1 in_X3_28 (jj_X4_init l g A (sz + 3) (fun q h => hAn q (by omega)) M10 (sz + 2) M11 eM11) ⟨rfl, rfl, (Nat.le_of_ble_eq_true rfl), (Nat.le_of_ble_eq_true rfl)⟩ rfl (Nat.le_of_ble_eq_true rfl) ⟨(Nat.le_of_ble_eq_true rfl), (Nat.le_of_ble_eq_true rfl)⟩ rfl dX3_init_52 (fun H locs hz hR hS => ?_)
    obtain ⟨M12, eM12, hf⟩ := mm_bd hf
    refine mm_aastz C hR hS (r := (RX4, TX4, 6)) rfl (fun _ => rfl) eM12 dX3_init_55 hz (fun H locs hz hR hS => ?_)
    refine lv_iinc (v := (1 : Int32)) (lv' := [(1, .int (1 : Int32)), (0, .ref x0)]) hx hb dX3_init_56 hl (k := 0) rfl (by decide) (by decide) rfl (fun ls hl => ?_)
    refine lv_goto (tgt := 34) hx hb dX3_init_59 (by decide) ?_
    refine lv_iload_n hx hb dX3_init_34 rfl (lv_at hl 0 rfl) ?_
    refine lv_aload_n hx hb dX3_init_35 rfl (lv_at hl 1 rfl) ?_
    obtain ⟨v13, ev13, hf⟩ := mm_bd hf
    refine mm_getR C hR fs_X3_11 ev13 dX3_init_36 ?_
    obtain ⟨v14, ev14, hf⟩ := mm_bd hf
    refine mm_alen C hR ev14 dX3_init_39 ?_
    refine lv_icmp_ge (tgt := 62) hx hb dX3_init_40 (by decide) (fun hc => ?_) (fun hc => ?_)
    · cases (mm_if1 hc hf)
    · have hf := mm_if0 hc hf
      refine lv_aload_n hx hb dX3_init_43 rfl (lv_at hl 1 rfl) ?_
      obtain ⟨v15, ev15, hf⟩ := mm_bd hf
      refine mm_getR C hR fs_X3_11 ev15 dX3_init_44 ?_
      refine lv_iload_n hx hb dX3_init_47 rfl (lv_at hl 0 rfl) ?_
      obtain ⟨M16, eM16, hf⟩ := mm_bd hf
      refine mm_newOx (z := (sz + 4)) (cells := 4) (slots := 122) C hR hS hs0 hAn hz rfl (sz + 5) 5 128 rfl rfl rfl tyX4 rfl iw_4 tyX4_ok mw_70 mw_72 mw_6 df_4 (Nat.le_of_ble_eq_true rfl) (Nat.le_of_ble_eq_true rfl) eM16 dX3_init_48 (fun H hz hR hS => ?_)
      refine lv_dup hx hb dX3_init_51 rfl ?_
      obtain ⟨M17, eM17, hf⟩ := mm_bd hf
      refine mm_callINx (As := []) (rest := [.ref (sz + 4), .int (1 : Int32), .ref v15]) (cells := 5) (slots := 128) (sz := (sz + 5)) C hR hS hl.1 hs0 hz rfl (sz + 6) 6 134 (by omega) rfl rfl C.2.2.2.2.2.1.2.1 in_X3_28 (jj_X4_init l g A (sz + 5) (fun q h => hAn q (by omega)) M16 (sz + 4) M17 eM17) ⟨rfl, rfl, (Nat.le_of_ble_eq_true rfl), (Nat.le_of_ble_eq_true rfl)⟩ rfl (Nat.le_of_ble_eq_true rfl) ⟨(Nat.le_of_ble_eq_true rfl), (Nat.le_of_ble_eq_true rfl)⟩ rfl dX3_init_52 (fun H locs hz hR hS => ?_)
      obtain ⟨M18, eM18, hf⟩ := mm_bd hf
      refine mm_aastz C hR hS (r := (RX4, TX4, 6)) rfl (fun _ => rfl) eM18 dX3_init_55 hz (fun H locs hz hR hS => ?_)
      refine lv_iinc (v := (2 : Int32)) (lv' := [(1, .int (2 : Int32)), (0, .ref x0)]) hx hb dX3_init_56 hl (k := 0) rfl (by decide) (by decide) rfl (fun ls hl => ?_)
      refine lv_goto (tgt := 34) hx hb dX3_init_59 (by decide) ?_
      refine lv_iload_n hx hb dX3_init_34 rfl (lv_at hl 0 rfl) ?_
      refine lv_aload_n hx hb dX3_init_35 rfl (lv_at hl 1 rfl) ?_
      obtain ⟨v19, ev19, hf⟩ := mm_bd hf
      refine mm_getR C hR fs_X3_11 ev19 dX3_init_36 ?_
      obtain ⟨v20, ev20, hf⟩ := mm_bd hf
      refine mm_alen C hR ev20 dX3_init_39 ?_
      refine lv_icmp_ge (tgt := 62) hx hb dX3_init_40 (by decide) (fun hc => ?_) (fun hc => ?_)
      · cases (mm_if1 hc hf)
      · have hf := mm_if0 hc hf
        refine lv_aload_n hx hb dX3_init_43 rfl (lv_at hl 1 rfl) ?_
        obtain ⟨v21, ev21, hf⟩ := mm_bd hf
        refine mm_getR C hR fs_X3_11 ev21 dX3_init_44 ?_
        refine lv_iload_n hx hb dX3_init_47 rfl (lv_at hl 0 rfl) ?_
        obtain ⟨M22, eM22, hf⟩ := mm_bd hf
        refine mm_newOx (z := (sz + 6)) (cells := 6) (slots := 134) C hR hS hs0 hAn hz rfl (sz + 7) 7 140 rfl rfl rfl tyX4 rfl iw_4 tyX4_ok mw_70 mw_72 mw_6 df_4 (Nat.le_of_ble_eq_true rfl) (Nat.le_of_ble_eq_true rfl) eM22 dX3_init_48 (fun H hz hR hS => ?_)
        refine lv_dup hx hb dX3_init_51 rfl ?_
        obtain ⟨M23, eM23, hf⟩ := mm_bd hf
        refine mm_callINx (As := []) (rest := [.ref (sz + 6), .int (2 : Int32), .ref v21]) (cells := 7) (slots := 140) (sz := (sz + 7)) C hR hS hl.1 hs0 hz rfl (sz + 8) 8 146 (by omega) rfl rfl C.2.2.2.2.2.1.2.1 in_X3_28 (jj_X4_init l g A (sz + 7) (fun q h => hAn q (by omega)) M22 (sz + 6) M23 eM23) ⟨rfl, rfl, (Nat.le_of_ble_eq_true rfl), (Nat.le_of_ble_eq_true rfl)⟩ rfl (Nat.le_of_ble_eq_true rfl) ⟨(Nat.le_of_ble_eq_true rfl), (Nat.le_of_ble_eq_true rfl)⟩ rfl dX3_init_52 (fun H locs hz hR hS => ?_)
        obtain ⟨M24, eM24, hf⟩ := mm_bd hf
        refine mm_aastz C hR hS (r := (RX4, TX4, 6)) rfl (fun _ => rfl) eM24 dX3_init_55 hz (fun H locs hz hR hS => ?_)
        refine lv_iinc (v := (3 : Int32)) (lv' := [(1, .int (3 : Int32)), (0, .ref x0)]) hx hb dX3_init_56 hl (k := 0) rfl (by decide) (by decide) rfl (fun ls hl => ?_)
        refine lv_goto (tgt := 34) hx hb dX3_init_59 (by decide) ?_
        refine lv_iload_n hx hb dX3_init_34 rfl (lv_at hl 0 rfl) ?_
        refine lv_aload_n hx hb dX3_init_35 rfl (lv_at hl 1 rfl) ?_
        obtain ⟨v25, ev25, hf⟩ := mm_bd hf
        refine mm_getR C hR fs_X3_11 ev25 dX3_init_36 ?_
        obtain ⟨v26, ev26, hf⟩ := mm_bd hf
        refine mm_alen C hR ev26 dX3_init_39 ?_
        refine lv_icmp_ge (tgt := 62) hx hb dX3_init_40 (by decide) (fun hc => ?_) (fun hc => ?_)
        · cases (mm_if1 hc hf)
        · have hf := mm_if0 hc hf
          refine lv_aload_n hx hb dX3_init_43 rfl (lv_at hl 1 rfl) ?_
          obtain ⟨v27, ev27, hf⟩ := mm_bd hf
          refine mm_getR C hR fs_X3_11 ev27 dX3_init_44 ?_
          refine lv_iload_n hx hb dX3_init_47 rfl (lv_at hl 0 rfl) ?_
          obtain ⟨M28, eM28, hf⟩ := mm_bd hf
          refine mm_newOx (z := (sz + 8)) (cells := 8) (slots := 146) C hR hS hs0 hAn hz rfl (sz + 9) 9 152 rfl rfl rfl tyX4 rfl iw_4 tyX4_ok mw_70 mw_72 mw_6 df_4 (Nat.le_of_ble_eq_true rfl) (Nat.le_of_ble_eq_true rfl) eM28 dX3_init_48 (fun H hz hR hS => ?_)
          refine lv_dup hx hb dX3_init_51 rfl ?_
          obtain ⟨M29, eM29, hf⟩ := mm_bd hf
          refine mm_callINx (As := []) (rest := [.ref (sz + 8), .int (3 : Int32), .ref v27]) (cells := 9) (slots := 152) (sz := (sz + 9)) C hR hS hl.1 hs0 hz rfl (sz + 10) 10 158 (by omega) rfl rfl C.2.2.2.2.2.1.2.1 in_X3_28 (jj_X4_init l g A (sz + 9) (fun q h => hAn q (by omega)) M28 (sz + 8) M29 eM29) ⟨rfl, rfl, (Nat.le_of_ble_eq_true rfl), (Nat.le_of_ble_eq_true rfl)⟩ rfl (Nat.le_of_ble_eq_true rfl) ⟨(Nat.le_of_ble_eq_true rfl), (Nat.le_of_ble_eq_true rfl)⟩ rfl dX3_init_52 (fun H locs hz hR hS => ?_)
          obtain ⟨M30, eM30, hf⟩ := mm_bd hf
          refine mm_aastz C hR hS (r := (RX4, TX4, 6)) rfl (fun _ => rfl) eM30 dX3_init_55 hz (fun H locs hz hR hS => ?_)
          refine lv_iinc (v := (4 : Int32)) (lv' := [(1, .int (4 : Int32)), (0, .ref x0)]) hx hb dX3_init_56 hl (k := 0) rfl (by decide) (by decide) rfl (fun ls hl => ?_)
          refine lv_goto (tgt := 34) hx hb dX3_init_59 (by decide) ?_
          refine lv_iload_n hx hb dX3_init_34 rfl (lv_at hl 0 rfl) ?_
          refine lv_aload_n hx hb dX3_init_35 rfl (lv_at hl 1 rfl) ?_
          obtain ⟨v31, ev31, hf⟩ := mm_bd hf
          refine mm_getR C hR fs_X3_11 ev31 dX3_init_36 ?_
          obtain ⟨v32, ev32, hf⟩ := mm_bd hf
          refine mm_alen C hR ev32 dX3_init_39 ?_
          refine lv_icmp_ge (tgt := 62) hx hb dX3_init_40 (by decide) (fun hc => ?_) (fun hc => ?_)
          · cases (mm_if1 hc hf)
          · have hf := mm_if0 hc hf
            refine lv_aload_n hx hb dX3_init_43 rfl (lv_at hl 1 rfl) ?_
            obtain ⟨v33, ev33, hf⟩ := mm_bd hf
            refine mm_getR C hR fs_X3_11 ev33 dX3_init_44 ?_
            refine lv_iload_n hx hb dX3_init_47 rfl (lv_at hl 0 rfl) ?_
            obtain ⟨M34, eM34, hf⟩ := mm_bd hf
            refine mm_newOx (z := (sz + 10)) (cells := 10) (slots := 158) C hR hS hs0 hAn hz rfl (sz + 11) 11 164 rfl rfl rfl tyX4 rfl iw_4 tyX4_ok mw_70 mw_72 mw_6 df_4 (Nat.le_of_ble_eq_true rfl) (Nat.le_of_ble_eq_true rfl) eM34 dX3_init_48 (fun H hz hR hS => ?_)
            refine lv_dup hx hb dX3_init_51 rfl ?_
            obtain ⟨M35, eM35, hf⟩ := mm_bd hf
            refine mm_callINx (As := []) (rest := [.ref (sz + 10), .int (4 : Int32), .ref v33]) (cells := 11) (slots := 164) (sz := (sz + 11)) C hR hS hl.1 hs0 hz rfl (sz + 12) 12 170 (by omega) rfl rfl C.2.2.2.2.2.1.2.1 in_X3_28 (jj_X4_init l g A (sz + 11) (fun q h => hAn q (by omega)) M34 (sz + 10) M35 eM35) ⟨rfl, rfl, (Nat.le_of_ble_eq_true rfl), (Nat.le_of_ble_eq_true rfl)⟩ rfl (Nat.le_of_ble_eq_true rfl) ⟨(Nat.le_of_ble_eq_true rfl), (Nat.le_of_ble_eq_true rfl)⟩ rfl dX3_init_52 (fun H locs hz hR hS => ?_)
            obtain ⟨M36, eM36, hf⟩ := mm_bd hf
            refine mm_aastz C hR hS (r := (RX4, TX4, 6)) rfl (fun _ => rfl) eM36 dX3_init_55 hz (fun H locs hz hR hS => ?_)
            refine lv_iinc (v := (5 : Int32)) (lv' := [(1, .int (5 : Int32)), (0, .ref x0)]) hx hb dX3_init_56 hl (k := 0) rfl (by decide) (by decide) rfl (fun ls hl => ?_)
            refine lv_goto (tgt := 34) hx hb dX3_init_59 (by decide) ?_
            refine lv_iload_n hx hb dX3_init_34 rfl (lv_at hl 0 rfl) ?_
            refine lv_aload_n hx hb dX3_init_35 rfl (lv_at hl 1 rfl) ?_
            obtain ⟨v37, ev37, hf⟩ := mm_bd hf
            refine mm_getR C hR fs_X3_11 ev37 dX3_init_36 ?_
            obtain ⟨v38, ev38, hf⟩ := mm_bd hf
            refine mm_alen C hR ev38 dX3_init_39 ?_
            refine lv_icmp_ge (tgt := 62) hx hb dX3_init_40 (by decide) (fun hc => ?_) (fun hc => ?_)
            · cases (mm_if1 hc hf)
            · have hf := mm_if0 hc hf
              refine lv_aload_n hx hb dX3_init_43 rfl (lv_at hl 1 rfl) ?_
              obtain ⟨v39, ev39, hf⟩ := mm_bd hf
              refine mm_getR C hR fs_X3_11 ev39 dX3_init_44 ?_
              refine lv_iload_n hx hb dX3_init_47 rfl (lv_at hl 0 rfl) ?_
              obtain ⟨M40, eM40, hf⟩ := mm_bd hf
              refine mm_newOx (z := (sz + 12)) (cells := 12) (slots := 170) C hR hS hs0 hAn hz rfl (sz + 13) 13 176 rfl rfl rfl tyX4 rfl iw_4 tyX4_ok mw_70 mw_72 mw_6 df_4 (Nat.le_of_ble_eq_true rfl) (Nat.le_of_ble_eq_true rfl) eM40 dX3_init_48 (fun H hz hR hS => ?_)
              refine lv_dup hx hb dX3_init_51 rfl ?_
              obtain ⟨M41, eM41, hf⟩ := mm_bd hf
              refine mm_callINx (As := []) (rest := [.ref (sz + 12), .int (5 : Int32), .ref v39]) (cells := 13) (slots := 176) (sz := (sz + 13)) C hR hS hl.1 hs0 hz rfl (sz + 14) 14 182 (by omega) rfl rfl C.2.2.2.2.2.1.2.1 in_X3_28 (jj_X4_init l g A (sz + 13) (fun q h => hAn q (by omega)) M40 (sz + 12) M41 eM41) ⟨rfl, rfl, (Nat.le_of_ble_eq_true rfl), (Nat.le_of_ble_eq_true rfl)⟩ rfl (Nat.le_of_ble_eq_true rfl) ⟨(Nat.le_of_ble_eq_true rfl), (Nat.le_of_ble_eq_true rfl)⟩ rfl dX3_init_52 (fun H locs hz hR hS => ?_)
              obtain ⟨M42, eM42, hf⟩ := mm_bd hf
              refine mm_aastz C hR hS (r := (RX4, TX4, 6)) rfl (fun _ => rfl) eM42 dX3_init_55 hz (fun H locs hz hR hS => ?_)
              refine lv_iinc (v := (6 : Int32)) (lv' := [(1, .int (6 : Int32)), (0, .ref x0)]) hx hb dX3_init_56 hl (k := 0) rfl (by decide) (by decide) rfl (fun ls hl => ?_)
              refine lv_goto (tgt := 34) hx hb dX3_init_59 (by decide) ?_
              refine lv_iload_n hx hb dX3_init_34 rfl (lv_at hl 0 rfl) ?_
              refine lv_aload_n hx hb dX3_init_35 rfl (lv_at hl 1 rfl) ?_
              obtain ⟨v43, ev43, hf⟩ := mm_bd hf
              refine mm_getR C hR fs_X3_11 ev43 dX3_init_36 ?_
              obtain ⟨v44, ev44, hf⟩ := mm_bd hf
              refine mm_alen C hR ev44 dX3_init_39 ?_
              refine lv_icmp_ge (tgt := 62) hx hb dX3_init_40 (by decide) (fun hc => ?_) (fun hc => ?_)
              · cases (mm_if1 hc hf)
              · have hf := mm_if0 hc hf
                refine lv_aload_n hx hb dX3_init_43 rfl (lv_at hl 1 rfl) ?_
                obtain ⟨v45, ev45, hf⟩ := mm_bd hf
                refine mm_getR C hR fs_X3_11 ev45 dX3_init_44 ?_
                refine lv_iload_n hx hb dX3_init_47 rfl (lv_at hl 0 rfl) ?_
                obtain ⟨M46, eM46, hf⟩ := mm_bd hf
                refine mm_newOx (z := (sz + 14)) (cells := 14) (slots := 182) C hR hS hs0 hAn hz rfl (sz + 15) 15 188 rfl rfl rfl tyX4 rfl iw_4 tyX4_ok mw_70 mw_72 mw_6 df_4 (Nat.le_of_ble_eq_true rfl) (Nat.le_of_ble_eq_true rfl) eM46 dX3_init_48 (fun H hz hR hS => ?_)
                refine lv_dup hx hb dX3_init_51 rfl ?_
                obtain ⟨M47, eM47, hf⟩ := mm_bd hf
                refine mm_callINx (As := []) (rest := [.ref (sz + 14), .int (6 : Int32), .ref v45]) (cells := 15) (slots := 188) (sz := (sz + 15)) C hR hS hl.1 hs0 hz rfl (sz + 16) 16 194 (by omega) rfl rfl C.2.2.2.2.2.1.2.1 in_X3_28 (jj_X4_init l g A (sz + 15) (fun q h => hAn q (by omega)) M46 (sz + 14) M47 eM47) ⟨rfl, rfl, (Nat.le_of_ble_eq_true rfl), (Nat.le_of_ble_eq_true rfl)⟩ rfl (Nat.le_of_ble_eq_true rfl) ⟨(Nat.le_of_ble_eq_true rfl), (Nat.le_of_ble_eq_true rfl)⟩ rfl dX3_init_52 (fun H locs hz hR hS => ?_)
                obtain ⟨M48, eM48, hf⟩ := mm_bd hf
                refine mm_aastz C hR hS (r := (RX4, TX4, 6)) rfl (fun _ => rfl) eM48 dX3_init_55 hz (fun H locs hz hR hS => ?_)
                refine lv_iinc (v := (7 : Int32)) (lv' := [(1, .int (7 : Int32)), (0, .ref x0)]) hx hb dX3_init_56 hl (k := 0) rfl (by decide) (by decide) rfl (fun ls hl => ?_)
                refine lv_goto (tgt := 34) hx hb dX3_init_59 (by decide) ?_
                refine lv_iload_n hx hb dX3_init_34 rfl (lv_at hl 0 rfl) ?_
                refine lv_aload_n hx hb dX3_init_35 rfl (lv_at hl 1 rfl) ?_
                obtain ⟨v49, ev49, hf⟩ := mm_bd hf
                refine mm_getR C hR fs_X3_11 ev49 dX3_init_36 ?_
                obtain ⟨v50, ev50, hf⟩ := mm_bd hf
                refine mm_alen C hR ev50 dX3_init_39 ?_
                refine lv_icmp_ge (tgt := 62) hx hb dX3_init_40 (by decide) (fun hc => ?_) (fun hc => ?_)
                · cases (mm_if1 hc hf)
                · have hf := mm_if0 hc hf
                  refine lv_aload_n hx hb dX3_init_43 rfl (lv_at hl 1 rfl) ?_
                  obtain ⟨v51, ev51, hf⟩ := mm_bd hf
                  refine mm_getR C hR fs_X3_11 ev51 dX3_init_44 ?_
                  refine lv_iload_n hx hb dX3_init_47 rfl (lv_at hl 0 rfl) ?_
                  obtain ⟨M52, eM52, hf⟩ := mm_bd hf
                  refine mm_newOx (z := (sz + 16)) (cells := 16) (slots := 194) C hR hS hs0 hAn hz rfl (sz + 17) 17 200 rfl rfl rfl tyX4 rfl iw_4 tyX4_ok mw_70 mw_72 mw_6 df_4 (Nat.le_of_ble_eq_true rfl) (Nat.le_of_ble_eq_true rfl) eM52 dX3_init_48 (fun H hz hR hS => ?_)
                  refine lv_dup hx hb dX3_init_51 rfl ?_
                  obtain ⟨M53, eM53, hf⟩ := mm_bd hf
                  refine mm_callINx (As := []) (rest := [.ref (sz + 16), .int (7 : Int32), .ref v51]) (cells := 17) (slots := 200) (sz := (sz + 17)) C hR hS hl.1 hs0 hz rfl (sz + 18) 18 206 (by omega) rfl rfl C.2.2.2.2.2.1.2.1 in_X3_28 (jj_X4_init l g A (sz + 17) (fun q h => hAn q (by omega)) M52 (sz + 16) M53 eM53) ⟨rfl, rfl, (Nat.le_of_ble_eq_true rfl), (Nat.le_of_ble_eq_true rfl)⟩ rfl (Nat.le_of_ble_eq_true rfl) ⟨(Nat.le_of_ble_eq_true rfl), (Nat.le_of_ble_eq_true rfl)⟩ rfl dX3_init_52 (fun H locs hz hR hS => ?_)
                  obtain ⟨M54, eM54, hf⟩ := mm_bd hf
                  refine mm_aastz C hR hS (r := (RX4, TX4, 6)) rfl (fun _ => rfl) eM54 dX3_init_55 hz (fun H locs hz hR hS => ?_)
                  refine lv_iinc (v := (8 : Int32)) (lv' := [(1, .int (8 : Int32)), (0, .ref x0)]) hx hb dX3_init_56 hl (k := 0) rfl (by decide) (by decide) rfl (fun ls hl => ?_)
                  refine lv_goto (tgt := 34) hx hb dX3_init_59 (by decide) ?_
                  refine lv_iload_n hx hb dX3_init_34 rfl (lv_at hl 0 rfl) ?_
                  refine lv_aload_n hx hb dX3_init_35 rfl (lv_at hl 1 rfl) ?_
                  obtain ⟨v55, ev55, hf⟩ := mm_bd hf
                  refine mm_getR C hR fs_X3_11 ev55 dX3_init_36 ?_
                  obtain ⟨v56, ev56, hf⟩ := mm_bd hf
                  refine mm_alen C hR ev56 dX3_init_39 ?_
                  refine lv_icmp_ge (tgt := 62) hx hb dX3_init_40 (by decide) (fun hc => ?_) (fun hc => ?_)
                  · cases (mm_if1 hc hf)
                  · have hf := mm_if0 hc hf
                    refine lv_aload_n hx hb dX3_init_43 rfl (lv_at hl 1 rfl) ?_
                    obtain ⟨v57, ev57, hf⟩ := mm_bd hf
                    refine mm_getR C hR fs_X3_11 ev57 dX3_init_44 ?_
                    refine lv_iload_n hx hb dX3_init_47 rfl (lv_at hl 0 rfl) ?_
                    obtain ⟨M58, eM58, hf⟩ := mm_bd hf
                    refine mm_newOx (z := (sz + 18)) (cells := 18) (slots := 206) C hR hS hs0 hAn hz rfl (sz + 19) 19 212 rfl rfl rfl tyX4 rfl iw_4 tyX4_ok mw_70 mw_72 mw_6 df_4 (Nat.le_of_ble_eq_true rfl) (Nat.le_of_ble_eq_true rfl) eM58 dX3_init_48 (fun H hz hR hS => ?_)
                    refine lv_dup hx hb dX3_init_51 rfl ?_
                    obtain ⟨M59, eM59, hf⟩ := mm_bd hf
                    refine mm_callINx (As := []) (rest := [.ref (sz + 18), .int (8 : Int32), .ref v57]) (cells := 19) (slots := 212) (sz := (sz + 19)) C hR hS hl.1 hs0 hz rfl (sz + 20) 20 218 (by omega) rfl rfl C.2.2.2.2.2.1.2.1 in_X3_28 (jj_X4_init l g A (sz + 19) (fun q h => hAn q (by omega)) M58 (sz + 18) M59 eM59) ⟨rfl, rfl, (Nat.le_of_ble_eq_true rfl), (Nat.le_of_ble_eq_true rfl)⟩ rfl (Nat.le_of_ble_eq_true rfl) ⟨(Nat.le_of_ble_eq_true rfl), (Nat.le_of_ble_eq_true rfl)⟩ rfl dX3_init_52 (fun H locs hz hR hS => ?_)
                    obtain ⟨M60, eM60, hf⟩ := mm_bd hf
                    refine mm_aastz C hR hS (r := (RX4, TX4, 6)) rfl (fun _ => rfl) eM60 dX3_init_55 hz (fun H locs hz hR hS => ?_)
                    refine lv_iinc (v := (9 : Int32)) (lv' := [(1, .int (9 : Int32)), (0, .ref x0)]) hx hb dX3_init_56 hl (k := 0) rfl (by decide) (by decide) rfl (fun ls hl => ?_)
                    refine lv_goto (tgt := 34) hx hb dX3_init_59 (by decide) ?_
                    refine lv_iload_n hx hb dX3_init_34 rfl (lv_at hl 0 rfl) ?_
                    refine lv_aload_n hx hb dX3_init_35 rfl (lv_at hl 1 rfl) ?_
                    obtain ⟨v61, ev61, hf⟩ := mm_bd hf
                    refine mm_getR C hR fs_X3_11 ev61 dX3_init_36 ?_
                    obtain ⟨v62, ev62, hf⟩ := mm_bd hf
                    refine mm_alen C hR ev62 dX3_init_39 ?_
                    refine lv_icmp_ge (tgt := 62) hx hb dX3_init_40 (by decide) (fun hc => ?_) (fun hc => ?_)
                    · cases (mm_if1 hc hf)
                    · have hf := mm_if0 hc hf
                      refine lv_aload_n hx hb dX3_init_43 rfl (lv_at hl 1 rfl) ?_
                      obtain ⟨v63, ev63, hf⟩ := mm_bd hf
                      refine mm_getR C hR fs_X3_11 ev63 dX3_init_44 ?_
                      refine lv_iload_n hx hb dX3_init_47 rfl (lv_at hl 0 rfl) ?_
                      obtain ⟨M64, eM64, hf⟩ := mm_bd hf
                      refine mm_newOx (z := (sz + 20)) (cells := 20) (slots := 218) C hR hS hs0 hAn hz rfl (sz + 21) 21 224 rfl rfl rfl tyX4 rfl iw_4 tyX4_ok mw_70 mw_72 mw_6 df_4 (Nat.le_of_ble_eq_true rfl) (Nat.le_of_ble_eq_true rfl) eM64 dX3_init_48 (fun H hz hR hS => ?_)
                      refine lv_dup hx hb dX3_init_51 rfl ?_
                      obtain ⟨M65, eM65, hf⟩ := mm_bd hf
                      refine mm_callINx (As := []) (rest := [.ref (sz + 20), .int (9 : Int32), .ref v63]) (cells := 21) (slots := 224) (sz := (sz + 21)) C hR hS hl.1 hs0 hz rfl (sz + 22) 22 230 (by omega) rfl rfl C.2.2.2.2.2.1.2.1 in_X3_28 (jj_X4_init l g A (sz + 21) (fun q h => hAn q (by omega)) M64 (sz + 20) M65 eM65) ⟨rfl, rfl, (Nat.le_of_ble_eq_true rfl), (Nat.le_of_ble_eq_true rfl)⟩ rfl (Nat.le_of_ble_eq_true rfl) ⟨(Nat.le_of_ble_eq_true rfl), (Nat.le_of_ble_eq_true rfl)⟩ rfl dX3_init_52 (fun H locs hz hR hS => ?_)
                      obtain ⟨M66, eM66, hf⟩ := mm_bd hf
                      refine mm_aastz C hR hS (r := (RX4, TX4, 6)) rfl (fun _ => rfl) eM66 dX3_init_55 hz (fun H locs hz hR hS => ?_)
                      refine lv_iinc (v := (10 : Int32)) (lv' := [(1, .int (10 : Int32)), (0, .ref x0)]) hx hb dX3_init_56 hl (k := 0) rfl (by decide) (by decide) rfl (fun ls hl => ?_)
                      refine lv_goto (tgt := 34) hx hb dX3_init_59 (by decide) ?_
                      refine lv_iload_n hx hb dX3_init_34 rfl (lv_at hl 0 rfl) ?_
                      refine lv_aload_n hx hb dX3_init_35 rfl (lv_at hl 1 rfl) ?_
                      obtain ⟨v67, ev67, hf⟩ := mm_bd hf
                      refine mm_getR C hR fs_X3_11 ev67 dX3_init_36 ?_
                      obtain ⟨v68, ev68, hf⟩ := mm_bd hf
                      refine mm_alen C hR ev68 dX3_init_39 ?_
                      refine lv_icmp_ge (tgt := 62) hx hb dX3_init_40 (by decide) (fun hc => ?_) (fun hc => ?_)
                      · have hf := mm_if1 hc hf
                        exact mm_vrz C hR hS hr (Option.some.inj hf) hs0 hz rfl dX3_init_62
                      · cases (mm_if0 hc hf)
def ff_X6_isWithin (M : mm_M) (x0 : Int32) (x1 : Int32) (x2 : Int32) : Option Int32 := if x0 < x1 then (some (0 : Int32)) else (if x2 < x0 then (some (0 : Int32)) else (some (1 : Int32)))
def rm_X6_isWithin : Room := { frames := 0, cells := 0, slots := 0, locals := 0 }
set_option maxHeartbeats 4000000 in
set_option maxRecDepth 100000 in
theorem jj_X6_isWithin (l : Launch) (g : mm_G) (A : Nat → Prop) (M : mm_M) (x0 : Int32) (x1 : Int32) (x2 : Int32) (r : Int32) (hf : ff_X6_isWithin M x0 x1 x2 = some r) : Met l yX6_isWithin (mm_ws yX6_isWithin cX6_isWithin 3 (Option.some Jvm.ClassFile.FieldType.boolean)) rm_X6_isWithin (va_Pc [.int x0, .int x1, .int x2] (mm_B g A M)) (mm_Ti g A r M) 0 0 A := by
  refine mm_met (g := g) (lv := [(0, .int x0), (1, .int x1), (2, .int x2)]) (fun U h => h.2) (by decide +kernel) (Nat.le_of_ble_eq_true rfl) rfl ?_
  intro p e s m args below meth c ls C hr hnm hB hl
  obtain ⟨hR, hK⟩ := hB
  have hx := C.1
  have hb := C.2.1
  suffices hmain : ∀ (H : Heap) (locs : List Loc), mm_R g A M H → va_S A s.heap H locs → W p l e rm_X6_isWithin s m args below meth c H locs 0 0 (MQ below (mm_Ti g A r M) args s 0 0 A) (F0 m 0 ls []) from hmain _ _ hR va_S.rf
  clear hR
  intro H locs hR hS
  unfold ff_X6_isWithin at hf
  refine lv_iload_n hx hb dX6_isWithin_0 rfl (lv_at hl 0 rfl) ?_
  refine lv_iload_n hx hb dX6_isWithin_1 rfl (lv_at hl 1 rfl) ?_
  refine lv_icmp_lt (tgt := 14) hx hb dX6_isWithin_2 (by decide) (fun hc => ?_) (fun hc => ?_)
  · have hf := mm_if1 hc hf
    refine lv_iconst (v := 0) hx hb dX6_isWithin_14 (by decide) ?_
    exact mm_zre C hR hS hr (Or.inl rfl) ((Option.some.inj hf)) rfl dX6_isWithin_15
  · have hf := mm_if0 hc hf
    refine lv_iload_n hx hb dX6_isWithin_5 rfl (lv_at hl 0 rfl) ?_
    refine lv_iload_n hx hb dX6_isWithin_6 rfl (lv_at hl 2 rfl) ?_
    refine lv_icmp_gt (tgt := 14) hx hb dX6_isWithin_7 (by decide) (fun hc => ?_) (fun hc => ?_)
    · have hf := mm_if1 hc hf
      refine lv_iconst (v := 0) hx hb dX6_isWithin_14 (by decide) ?_
      exact mm_zre C hR hS hr (Or.inl rfl) ((Option.some.inj hf)) rfl dX6_isWithin_15
    · have hf := mm_if0 hc hf
      refine lv_iconst (v := 1) hx hb dX6_isWithin_10 (by decide) ?_
      refine lv_goto (tgt := 15) hx hb dX6_isWithin_11 (by decide) ?_
      exact mm_zre C hR hS hr (Or.inr rfl) ((Option.some.inj hf)) rfl dX6_isWithin_15
def ff_X3_copyFrom_l2  (x0 : Nat) (x1 : Nat) (x2 : Int32) (M : mm_M) : Option ((Int32 × mm_M) ⊕ (Int32 × mm_M)) := Option.bind (mm_gR 3 M x0 0) fun v1 => Option.bind (mm_ln M v1) fun v2 => if v2 ≤ x2 then (some (.inr (x2, M))) else (Option.bind (mm_gR 3 M x1 0) fun v3 => Option.bind (mm_ln M v3) fun v4 => if v4 ≤ x2 then (some (.inr (x2, M))) else (Option.bind (mm_gR 3 M x0 0) fun v5 => Option.bind (mm_aR 2 M v5 x2) fun v6 => Option.bind (mm_gR 3 M x1 0) fun v7 => Option.bind (mm_aR 2 M v7 x2) fun v8 => Option.bind (mm_ck 4 M v6) fun u9 => Option.bind (ff_X4_copyFrom M v6 v8) fun M10 => some (.inl ((x2 + (1 : Int32)), M10))))
def ff_X3_copyFrom (M : mm_M) (x0 : Nat) (x1 : Nat) : Option mm_M := Option.bind (mm_it (mm_u2 (ff_X3_copyFrom_l2 x0 x1)) mm_fu ((0 : Int32), M)) fun e11 => mm_u2 (fun x2_12 M13 => Option.bind (mm_gR 3 M13 x1 1) fun v14 => Option.bind (mm_gR 3 M13 x0 1) fun v15 => Option.bind (mm_gR 3 M13 x0 1) fun v16 => Option.bind (mm_ln M13 v16) fun v17 => Option.bind (mm_cp M13 v14 (0 : Int32) v15 (0 : Int32) v17) fun M18 => Option.bind (mm_gI 3 M18 x1 2) fun v19 => Option.bind (mm_pI 3 M18 x0 2 v19) fun M20 => Option.bind (mm_gI 3 M20 x1 3) fun v21 => Option.bind (mm_pI 3 M20 x0 3 v21) fun M22 => Option.bind (mm_gI 3 M22 x1 4) fun v23 => Option.bind (mm_pI 3 M22 x0 4 v23) fun M24 => Option.bind (mm_gI 3 M24 x1 5) fun v25 => Option.bind (mm_pI 3 M24 x0 5 v25) fun M26 => Option.bind (mm_gI 3 M26 x1 6) fun v27 => Option.bind (mm_pI 3 M26 x0 6 v27) fun M28 => Option.bind (mm_gI 3 M28 x1 7) fun v29 => Option.bind (mm_pI 3 M28 x0 7 v29) fun M30 => Option.bind (mm_gI 3 M30 x1 8) fun v31 => Option.bind (mm_pI 3 M30 x0 8 v31) fun M32 => some M32) e11
def rm_X3_copyFrom : Room := { frames := 2, cells := 0, slots := 0, locals := 47 }
set_option maxHeartbeats 4000000 in
set_option maxRecDepth 100000 in
theorem jj_X3_copyFrom (l : Launch) (g : mm_G) (A : Nat → Prop) (M : mm_M) (x0 : Nat) (x1 : Nat) (M2 : mm_M) (hf : ff_X3_copyFrom M x0 x1 = some M2) : Met l yX3_copyFrom (mm_ws yX3_copyFrom cX3_copyFrom 3 (Option.none : Option Jvm.ClassFile.FieldType)) rm_X3_copyFrom (va_Pc [.ref x0, .ref x1] (mm_B g A M)) (mm_Tv g A M2) 0 0 A := by
  refine mm_met (g := g) (lv := [(0, .ref x0), (1, .ref x1)]) (fun U h => h.2) (by decide +kernel) (Nat.le_of_ble_eq_true rfl) rfl ?_
  intro p e s m args below meth c ls C hr hnm hB hl
  obtain ⟨hR, hK⟩ := hB
  have hx := C.1
  have hb := C.2.1
  suffices hmain : ∀ (H : Heap) (locs : List Loc), mm_R g A M H → va_S A s.heap H locs → W p l e rm_X3_copyFrom s m args below meth c H locs 0 0 (MQ below (mm_Tv g A M2) args s 0 0 A) (F0 m 0 ls []) from hmain _ _ hR va_S.rf
  clear hR
  intro H locs hR hS
  have L2 : ∀ (x0 : Nat) (x1 : Nat) (e1 : Int32 × mm_M) (hX : ∀ (x2 : Int32) (M : mm_M), e1 = (x2, M) → ∀ (H : Heap) (locs : List Loc) (ls : Array Slot), mm_R g A M H → va_S A s.heap H locs → lv_has ls 3 [(0, .ref x0), (1, .ref x1)] → W p l e rm_X3_copyFrom s m args below meth c H locs 0 0 (MQ below (mm_Tv g A M2) args s 0 0 A) (F0 m 41 ls [])) (n : Nat) (x2 : Int32) (M : mm_M), mm_it (mm_u2 (ff_X3_copyFrom_l2 x0 x1)) n (x2, M) = some e1 → ∀ (H : Heap) (locs : List Loc) (ls : Array Slot), mm_R g A M H → va_S A s.heap H locs → lv_has ls 3 [(0, .ref x0), (1, .ref x1), (2, .int x2)] → W p l e rm_X3_copyFrom s m args below meth c H locs 0 0 (MQ below (mm_Tv g A M2) args s 0 0 A) (F0 m 2 ls []) := by
    intro x0 x1 e1 hX n x2 M hit
    refine mm_itW (Hd := fun st => ∀ (H : Heap) (locs : List Loc) (ls : Array Slot), mm_R g A st.2 H → va_S A s.heap H locs → lv_has ls 3 [(0, .ref x0), (1, .ref x1), (2, .int st.1)] → W p l e rm_X3_copyFrom s m args below meth c H locs 0 0 (MQ below (mm_Tv g A M2) args s 0 0 A) (F0 m 2 ls [])) (fun st y hf hin hout => ?_) n (x2, M) hit
    obtain ⟨x2, M⟩ := st
    have hf := mm_u2e hf
    intro H locs ls hR hS hl
    unfold ff_X3_copyFrom_l2 at hf
    refine lv_iload_n hx hb dX3_copyFrom_2 rfl (lv_at hl 2 rfl) ?_
    refine lv_aload_n hx hb dX3_copyFrom_3 rfl (lv_at hl 0 rfl) ?_
    obtain ⟨v1, ev1, hf⟩ := mm_bd hf
    refine mm_getR C hR fs_X3_11 ev1 dX3_copyFrom_4 ?_
    obtain ⟨v2, ev2, hf⟩ := mm_bd hf
    refine mm_alen C hR ev2 dX3_copyFrom_7 ?_
    refine lv_icmp_ge (tgt := 41) hx hb dX3_copyFrom_8 (by decide) (fun hc => ?_) (fun hc => ?_)
    · have hf := mm_if1 hc hf
      exact hX _ _ (hout _ (Option.some.inj hf).symm).symm H locs ls hR hS (lv_sub hl [0, 1] rfl)
    · have hf := mm_if0 hc hf
      refine lv_iload_n hx hb dX3_copyFrom_11 rfl (lv_at hl 2 rfl) ?_
      refine lv_aload_n hx hb dX3_copyFrom_12 rfl (lv_at hl 1 rfl) ?_
      obtain ⟨v3, ev3, hf⟩ := mm_bd hf
      refine mm_getR C hR fs_X3_11 ev3 dX3_copyFrom_13 ?_
      obtain ⟨v4, ev4, hf⟩ := mm_bd hf
      refine mm_alen C hR ev4 dX3_copyFrom_16 ?_
      refine lv_icmp_ge (tgt := 41) hx hb dX3_copyFrom_17 (by decide) (fun hc => ?_) (fun hc => ?_)
      · have hf := mm_if1 hc hf
        exact hX _ _ (hout _ (Option.some.inj hf).symm).symm H locs ls hR hS (lv_sub hl [0, 1] rfl)
      · have hf := mm_if0 hc hf
        refine lv_aload_n hx hb dX3_copyFrom_20 rfl (lv_at hl 0 rfl) ?_
        obtain ⟨v5, ev5, hf⟩ := mm_bd hf
        refine mm_getR C hR fs_X3_11 ev5 dX3_copyFrom_21 ?_
        refine lv_iload_n hx hb dX3_copyFrom_24 rfl (lv_at hl 2 rfl) ?_
        obtain ⟨v6, ev6, hf⟩ := mm_bd hf
        refine mm_aald C hR (fun _ => rfl) ev6 dX3_copyFrom_25 ?_
        refine lv_aload_n hx hb dX3_copyFrom_26 rfl (lv_at hl 1 rfl) ?_
        obtain ⟨v7, ev7, hf⟩ := mm_bd hf
        refine mm_getR C hR fs_X3_11 ev7 dX3_copyFrom_27 ?_
        refine lv_iload_n hx hb dX3_copyFrom_30 rfl (lv_at hl 2 rfl) ?_
        obtain ⟨v8, ev8, hf⟩ := mm_bd hf
        refine mm_aald C hR (fun _ => rfl) ev8 dX3_copyFrom_31 ?_
        obtain ⟨u9, eu9, hf⟩ := mm_bd hf
        obtain ⟨M10, eM10, hf⟩ := mm_bd hf
        refine mm_callVv (As := [.ref v8]) (rest := []) C hR hS hl.1 vs_X3_29 eu9 (jj_X4_copyFrom l g A M v6 v8 M10 eM10) ⟨rfl, rfl, (Nat.le_of_ble_eq_true rfl), (Nat.le_of_ble_eq_true rfl)⟩ rfl (Nat.le_of_ble_eq_true rfl) ⟨Nat.zero_le _, Nat.zero_le _⟩ rfl dX3_copyFrom_32 (fun H locs hR hS => ?_)
        refine lv_iinc (v := (x2 + (1 : Int32))) (lv' := [(2, .int (x2 + (1 : Int32))), (0, .ref x0), (1, .ref x1)]) hx hb dX3_copyFrom_35 hl (k := 2) rfl rfl (by decide) rfl (fun ls hl => ?_)
        refine lv_goto (tgt := 2) hx hb dX3_copyFrom_38 (by decide) ?_
        exact hin _ (Option.some.inj hf).symm H locs ls hR hS (lv_sub hl [1, 2, 0] rfl)
  unfold ff_X3_copyFrom at hf
  refine lv_iconst (v := 0) hx hb dX3_copyFrom_0 (by decide) ?_
  refine lv_istore_n (lv' := [(2, .int (0 : Int32)), (0, .ref x0), (1, .ref x1)]) hx hb dX3_copyFrom_1 rfl hl (by decide) rfl (fun ls hl => ?_)
  obtain ⟨e11, he11, hf⟩ := mm_bd hf
  refine L2 x0 x1 e11 (fun x2_12 M13 he => ?_) _ (0 : Int32) M he11 H locs ls hR hS (lv_sub hl [1, 2, 0] rfl)
  subst he
  intro H locs ls hR hS hl
  have hf := mm_u2e hf
  refine lv_aload_n hx hb dX3_copyFrom_41 rfl (lv_at hl 1 rfl) ?_
  obtain ⟨v14, ev14, hf⟩ := mm_bd hf
  refine mm_getR C hR fs_X3_17 ev14 dX3_copyFrom_42 ?_
  refine lv_iconst (v := 0) hx hb dX3_copyFrom_45 (by decide) ?_
  refine lv_aload_n hx hb dX3_copyFrom_46 rfl (lv_at hl 0 rfl) ?_
  obtain ⟨v15, ev15, hf⟩ := mm_bd hf
  refine mm_getR C hR fs_X3_17 ev15 dX3_copyFrom_47 ?_
  refine lv_iconst (v := 0) hx hb dX3_copyFrom_50 (by decide) ?_
  refine lv_aload_n hx hb dX3_copyFrom_51 rfl (lv_at hl 0 rfl) ?_
  obtain ⟨v16, ev16, hf⟩ := mm_bd hf
  refine mm_getR C hR fs_X3_17 ev16 dX3_copyFrom_52 ?_
  obtain ⟨v17, ev17, hf⟩ := mm_bd hf
  refine mm_alen C hR ev17 dX3_copyFrom_55 ?_
  obtain ⟨M18, eM18, hf⟩ := mm_bd hf
  refine mm_copy C hR hS hl.1 mw_238 mw_228 mw_227 mw_10 eM18 (Nat.le_of_ble_eq_true rfl) (Nat.le_of_ble_eq_true rfl) dX3_copyFrom_56 (fun H locs hR hS => ?_)
  refine lv_aload_n hx hb dX3_copyFrom_59 rfl (lv_at hl 0 rfl) ?_
  refine lv_aload_n hx hb dX3_copyFrom_60 rfl (lv_at hl 1 rfl) ?_
  obtain ⟨v19, ev19, hf⟩ := mm_bd hf
  refine mm_getI C hR fs_X3_39 ev19 dX3_copyFrom_61 ?_
  obtain ⟨M20, eM20, hf⟩ := mm_bd hf
  refine mm_putI C hR hS ps_X3_39 eM20 dX3_copyFrom_64 (fun H locs hR hS => ?_)
  refine lv_aload_n hx hb dX3_copyFrom_67 rfl (lv_at hl 0 rfl) ?_
  refine lv_aload_n hx hb dX3_copyFrom_68 rfl (lv_at hl 1 rfl) ?_
  obtain ⟨v21, ev21, hf⟩ := mm_bd hf
  refine mm_getI C hR fs_X3_21 ev21 dX3_copyFrom_69 ?_
  obtain ⟨M22, eM22, hf⟩ := mm_bd hf
  refine mm_putI C hR hS ps_X3_21 eM22 dX3_copyFrom_72 (fun H locs hR hS => ?_)
  refine lv_aload_n hx hb dX3_copyFrom_75 rfl (lv_at hl 0 rfl) ?_
  refine lv_aload_n hx hb dX3_copyFrom_76 rfl (lv_at hl 1 rfl) ?_
  obtain ⟨v23, ev23, hf⟩ := mm_bd hf
  refine mm_getI C hR fs_X3_25 ev23 dX3_copyFrom_77 ?_
  obtain ⟨M24, eM24, hf⟩ := mm_bd hf
  refine mm_putI C hR hS ps_X3_25 eM24 dX3_copyFrom_80 (fun H locs hR hS => ?_)
  refine lv_aload_n hx hb dX3_copyFrom_83 rfl (lv_at hl 0 rfl) ?_
  refine lv_aload_n hx hb dX3_copyFrom_84 rfl (lv_at hl 1 rfl) ?_
  obtain ⟨v25, ev25, hf⟩ := mm_bd hf
  refine mm_getI C hR fs_X3_42 ev25 dX3_copyFrom_85 ?_
  obtain ⟨M26, eM26, hf⟩ := mm_bd hf
  refine mm_putI C hR hS ps_X3_42 eM26 dX3_copyFrom_88 (fun H locs hR hS => ?_)
  refine lv_aload_n hx hb dX3_copyFrom_91 rfl (lv_at hl 0 rfl) ?_
  refine lv_aload_n hx hb dX3_copyFrom_92 rfl (lv_at hl 1 rfl) ?_
  obtain ⟨v27, ev27, hf⟩ := mm_bd hf
  refine mm_getI C hR fs_X3_45 ev27 dX3_copyFrom_93 ?_
  obtain ⟨M28, eM28, hf⟩ := mm_bd hf
  refine mm_putI C hR hS ps_X3_45 eM28 dX3_copyFrom_96 (fun H locs hR hS => ?_)
  refine lv_aload_n hx hb dX3_copyFrom_99 rfl (lv_at hl 0 rfl) ?_
  refine lv_aload_n hx hb dX3_copyFrom_100 rfl (lv_at hl 1 rfl) ?_
  obtain ⟨v29, ev29, hf⟩ := mm_bd hf
  refine mm_getI C hR fs_X3_48 ev29 dX3_copyFrom_101 ?_
  obtain ⟨M30, eM30, hf⟩ := mm_bd hf
  refine mm_putI C hR hS ps_X3_48 eM30 dX3_copyFrom_104 (fun H locs hR hS => ?_)
  refine lv_aload_n hx hb dX3_copyFrom_107 rfl (lv_at hl 0 rfl) ?_
  refine lv_aload_n hx hb dX3_copyFrom_108 rfl (lv_at hl 1 rfl) ?_
  obtain ⟨v31, ev31, hf⟩ := mm_bd hf
  refine mm_getI C hR fs_X3_51 ev31 dX3_copyFrom_109 ?_
  obtain ⟨M32, eM32, hf⟩ := mm_bd hf
  refine mm_putI C hR hS ps_X3_51 eM32 dX3_copyFrom_112 (fun H locs hR hS => ?_)
  exact mm_vre C hR hS hr (Option.some.inj hf) dX3_copyFrom_115
def ff_X3_tesseraeAtHand_l13  (M : mm_M) (x2 : Nat) (x3 : Int32) (x1 : Int32) (x4 : Int32) : Option ((Int32 × Int32) ⊕ (Int32 × Int32)) := if x3 ≤ x4 then (some (.inr (x1, x4))) else (Option.bind (mm_aI 0 M x2 x4) fun v3 => some (.inl ((x1 + v3), (x4 + (1 : Int32)))))
def ff_X3_tesseraeAtHand (M : mm_M) (x0 : Nat) : Option Int32 := Option.bind (mm_gR 3 M x0 1) fun v1 => Option.bind (mm_ln M v1) fun v2 => Option.bind (mm_it (mm_u2 (ff_X3_tesseraeAtHand_l13 M v1 v2)) mm_fu ((0 : Int32), (0 : Int32))) fun e4 => mm_u2 (fun x1_5 x4_6 => some x1_5) e4
def rm_X3_tesseraeAtHand : Room := { frames := 0, cells := 0, slots := 0, locals := 0 }
set_option maxHeartbeats 4000000 in
set_option maxRecDepth 100000 in
theorem jj_X3_tesseraeAtHand (l : Launch) (g : mm_G) (A : Nat → Prop) (M : mm_M) (x0 : Nat) (r : Int32) (hf : ff_X3_tesseraeAtHand M x0 = some r) : Met l yX3_tesseraeAtHand (mm_ws yX3_tesseraeAtHand cX3_tesseraeAtHand 6 (Option.some Jvm.ClassFile.FieldType.int)) rm_X3_tesseraeAtHand (va_Pc [.ref x0] (mm_B g A M)) (mm_Ti g A r M) 0 0 A := by
  refine mm_met (g := g) (lv := [(0, .ref x0)]) (fun U h => h.2) (by decide +kernel) (Nat.le_of_ble_eq_true rfl) rfl ?_
  intro p e s m args below meth c ls C hr hnm hB hl
  obtain ⟨hR, hK⟩ := hB
  have hx := C.1
  have hb := C.2.1
  suffices hmain : ∀ (H : Heap) (locs : List Loc), mm_R g A M H → va_S A s.heap H locs → W p l e rm_X3_tesseraeAtHand s m args below meth c H locs 0 0 (MQ below (mm_Ti g A r M) args s 0 0 A) (F0 m 0 ls []) from hmain _ _ hR va_S.rf
  clear hR
  intro H locs hR hS
  have L13 : ∀ (x2 : Nat) (x3 : Int32) (e1 : Int32 × Int32) (hX : ∀ (x1 : Int32) (x4 : Int32), e1 = (x1, x4) → ∀ (H : Heap) (locs : List Loc) (ls : Array Slot), mm_R g A M H → va_S A s.heap H locs → lv_has ls 6 [(1, .int x1)] → W p l e rm_X3_tesseraeAtHand s m args below meth c H locs 0 0 (MQ below (mm_Ti g A r M) args s 0 0 A) (F0 m 36 ls [])) (n : Nat) (x1 : Int32) (x4 : Int32), mm_it (mm_u2 (ff_X3_tesseraeAtHand_l13 M x2 x3)) n (x1, x4) = some e1 → ∀ (H : Heap) (locs : List Loc) (ls : Array Slot), mm_R g A M H → va_S A s.heap H locs → lv_has ls 6 [(1, .int x1), (2, .ref x2), (3, .int x3), (4, .int x4)] → W p l e rm_X3_tesseraeAtHand s m args below meth c H locs 0 0 (MQ below (mm_Ti g A r M) args s 0 0 A) (F0 m 13 ls []) := by
    intro x2 x3 e1 hX n x1 x4 hit
    refine mm_itW (Hd := fun st => ∀ (H : Heap) (locs : List Loc) (ls : Array Slot), mm_R g A M H → va_S A s.heap H locs → lv_has ls 6 [(1, .int st.1), (2, .ref x2), (3, .int x3), (4, .int st.2)] → W p l e rm_X3_tesseraeAtHand s m args below meth c H locs 0 0 (MQ below (mm_Ti g A r M) args s 0 0 A) (F0 m 13 ls [])) (fun st y hf hin hout => ?_) n (x1, x4) hit
    obtain ⟨x1, x4⟩ := st
    have hf := mm_u2e hf
    intro H locs ls hR hS hl
    unfold ff_X3_tesseraeAtHand_l13 at hf
    refine lv_iload hx hb dX3_tesseraeAtHand_13 (lv_at hl 3 rfl) ?_
    refine lv_iload_n hx hb dX3_tesseraeAtHand_15 rfl (lv_at hl 2 rfl) ?_
    refine lv_icmp_ge (tgt := 36) hx hb dX3_tesseraeAtHand_16 (by decide) (fun hc => ?_) (fun hc => ?_)
    · have hf := mm_if1 hc hf
      exact hX _ _ (hout _ (Option.some.inj hf).symm).symm H locs ls hR hS (lv_sub hl [0] rfl)
    · have hf := mm_if0 hc hf
      refine lv_aload_n hx hb dX3_tesseraeAtHand_19 rfl (lv_at hl 1 rfl) ?_
      refine lv_iload hx hb dX3_tesseraeAtHand_20 (lv_at hl 3 rfl) ?_
      obtain ⟨v3, ev3, hf⟩ := mm_bd hf
      refine mm_iald C hR ev3 dX3_tesseraeAtHand_22 ?_
      refine lv_istore (lv' := [(5, .int v3), (1, .int x1), (2, .ref x2), (3, .int x3), (4, .int x4)]) hx hb dX3_tesseraeAtHand_23 hl (by decide) rfl (fun ls hl => ?_)
      refine lv_iload_n hx hb dX3_tesseraeAtHand_25 rfl (lv_at hl 1 rfl) ?_
      refine lv_iload hx hb dX3_tesseraeAtHand_26 (lv_at hl 0 rfl) ?_
      refine lv_iadd hx hb dX3_tesseraeAtHand_28 ?_
      refine lv_istore_n (lv' := [(1, .int (x1 + v3)), (5, .int v3), (2, .ref x2), (3, .int x3), (4, .int x4)]) hx hb dX3_tesseraeAtHand_29 rfl hl (by decide) rfl (fun ls hl => ?_)
      refine lv_iinc (v := (x4 + (1 : Int32))) (lv' := [(4, .int (x4 + (1 : Int32))), (1, .int (x1 + v3)), (5, .int v3), (2, .ref x2), (3, .int x3)]) hx hb dX3_tesseraeAtHand_30 hl (k := 4) rfl rfl (by decide) rfl (fun ls hl => ?_)
      refine lv_goto (tgt := 13) hx hb dX3_tesseraeAtHand_33 (by decide) ?_
      exact hin _ (Option.some.inj hf).symm H locs ls hR hS (lv_sub hl [1, 3, 4, 0] rfl)
  unfold ff_X3_tesseraeAtHand at hf
  refine lv_iconst (v := 0) hx hb dX3_tesseraeAtHand_0 (by decide) ?_
  refine lv_istore_n (lv' := [(1, .int (0 : Int32)), (0, .ref x0)]) hx hb dX3_tesseraeAtHand_1 rfl hl (by decide) rfl (fun ls hl => ?_)
  refine lv_aload_n hx hb dX3_tesseraeAtHand_2 rfl (lv_at hl 1 rfl) ?_
  obtain ⟨v1, ev1, hf⟩ := mm_bd hf
  refine mm_getR C hR fs_X3_17 ev1 dX3_tesseraeAtHand_3 ?_
  refine lv_astore_n (lv' := [(2, .ref v1), (1, .int (0 : Int32)), (0, .ref x0)]) hx hb dX3_tesseraeAtHand_6 rfl hl (by decide) rfl (fun ls hl => ?_)
  refine lv_aload_n hx hb dX3_tesseraeAtHand_7 rfl (lv_at hl 0 rfl) ?_
  obtain ⟨v2, ev2, hf⟩ := mm_bd hf
  refine mm_alen C hR ev2 dX3_tesseraeAtHand_8 ?_
  refine lv_istore_n (lv' := [(3, .int v2), (2, .ref v1), (1, .int (0 : Int32)), (0, .ref x0)]) hx hb dX3_tesseraeAtHand_9 rfl hl (by decide) rfl (fun ls hl => ?_)
  refine lv_iconst (v := 0) hx hb dX3_tesseraeAtHand_10 (by decide) ?_
  refine lv_istore (lv' := [(4, .int (0 : Int32)), (3, .int v2), (2, .ref v1), (1, .int (0 : Int32)), (0, .ref x0)]) hx hb dX3_tesseraeAtHand_11 hl (by decide) rfl (fun ls hl => ?_)
  obtain ⟨e4, he4, hf⟩ := mm_bd hf
  refine L13 v1 v2 e4 (fun x1_5 x4_6 he => ?_) _ (0 : Int32) (0 : Int32) he4 H locs ls hR hS (lv_sub hl [3, 2, 1, 0] rfl)
  subst he
  intro H locs ls hR hS hl
  have hf := mm_u2e hf
  refine lv_iload_n hx hb dX3_tesseraeAtHand_36 rfl (lv_at hl 0 rfl) ?_
  exact mm_ire C hR hS hr ((Option.some.inj hf)) rfl dX3_tesseraeAtHand_37
def ff_X3_throwAway (M : mm_M) (x0 : Nat) : Option mm_M := Option.bind (mm_gI 3 M x0 8) fun v1 => Option.bind (mm_ck 3 M x0) fun u2 => Option.bind (ff_X3_tesseraeAtHand M x0) fun v3 => Option.bind (mm_gI 3 M x0 3) fun v4 => Option.bind (mm_pI 3 M x0 8 (v1 + (v3 * v4))) fun M5 => Option.bind (mm_gR 3 M5 x0 1) fun v6 => Option.bind (ff_J7_fill_53178 M5 v6 (0 : Int32)) fun M7 => some M7
def rm_X3_throwAway : Room := { frames := 1, cells := 0, slots := 0, locals := 25 }
set_option maxHeartbeats 4000000 in
set_option maxRecDepth 100000 in
theorem jj_X3_throwAway (l : Launch) (g : mm_G) (A : Nat → Prop) (M : mm_M) (x0 : Nat) (M2 : mm_M) (hf : ff_X3_throwAway M x0 = some M2) : Met l yX3_throwAway (mm_ws yX3_throwAway cX3_throwAway 1 (Option.none : Option Jvm.ClassFile.FieldType)) rm_X3_throwAway (va_Pc [.ref x0] (mm_B g A M)) (mm_Tv g A M2) 0 0 A := by
  refine mm_met (g := g) (lv := [(0, .ref x0)]) (fun U h => h.2) (by decide +kernel) (Nat.le_of_ble_eq_true rfl) rfl ?_
  intro p e s m args below meth c ls C hr hnm hB hl
  obtain ⟨hR, hK⟩ := hB
  have hx := C.1
  have hb := C.2.1
  suffices hmain : ∀ (H : Heap) (locs : List Loc), mm_R g A M H → va_S A s.heap H locs → W p l e rm_X3_throwAway s m args below meth c H locs 0 0 (MQ below (mm_Tv g A M2) args s 0 0 A) (F0 m 0 ls []) from hmain _ _ hR va_S.rf
  clear hR
  intro H locs hR hS
  unfold ff_X3_throwAway at hf
  refine lv_aload_n hx hb dX3_throwAway_0 rfl (lv_at hl 0 rfl) ?_
  refine lv_dup hx hb dX3_throwAway_1 rfl ?_
  obtain ⟨v1, ev1, hf⟩ := mm_bd hf
  refine mm_getI C hR fs_X3_51 ev1 dX3_throwAway_2 ?_
  refine lv_aload_n hx hb dX3_throwAway_5 rfl (lv_at hl 0 rfl) ?_
  obtain ⟨u2, eu2, hf⟩ := mm_bd hf
  obtain ⟨v3, ev3, hf⟩ := mm_bd hf
  refine mm_callVi (As := []) (rest := [.int v1, .ref x0]) C hR hS hl.1 vs_X3_73 eu2 (jj_X3_tesseraeAtHand l g A M x0 v3 ev3) ⟨rfl, rfl, (Nat.le_of_ble_eq_true rfl), (Nat.le_of_ble_eq_true rfl)⟩ rfl (Nat.le_of_ble_eq_true rfl) ⟨Nat.zero_le _, Nat.zero_le _⟩ rfl dX3_throwAway_6 (fun H locs hR hS => ?_)
  refine lv_aload_n hx hb dX3_throwAway_9 rfl (lv_at hl 0 rfl) ?_
  obtain ⟨v4, ev4, hf⟩ := mm_bd hf
  refine mm_getI C hR fs_X3_21 ev4 dX3_throwAway_10 ?_
  refine lv_imul hx hb dX3_throwAway_13 ?_
  refine lv_iadd hx hb dX3_throwAway_14 ?_
  obtain ⟨M5, eM5, hf⟩ := mm_bd hf
  refine mm_putI C hR hS ps_X3_51 eM5 dX3_throwAway_15 (fun H locs hR hS => ?_)
  refine lv_aload_n hx hb dX3_throwAway_18 rfl (lv_at hl 0 rfl) ?_
  obtain ⟨v6, ev6, hf⟩ := mm_bd hf
  refine mm_getR C hR fs_X3_17 ev6 dX3_throwAway_19 ?_
  refine lv_iconst (v := 0) hx hb dX3_throwAway_22 (by decide) ?_
  obtain ⟨M7, eM7, hf⟩ := mm_bd hf
  refine mm_callSv (As := [.ref v6, .int (0 : Int32)]) (rest := []) C hR hS hl.1 ss_X3_76 (jj_J7_fill_53178 l g A M5 v6 (0 : Int32) M7 eM7) ⟨rfl, rfl, (Nat.le_of_ble_eq_true rfl), (Nat.le_of_ble_eq_true rfl)⟩ rfl (Nat.le_of_ble_eq_true rfl) ⟨Nat.zero_le _, Nat.zero_le _⟩ rfl dX3_throwAway_23 (fun H locs hR hS => ?_)
  exact mm_vre C hR hS hr (Option.some.inj hf) dX3_throwAway_26
def ff_X6_isShade (M : mm_M) (x0 : Int32) : Option Int32 := if x0 < (0 : Int32) then (some (0 : Int32)) else (if (100 : Int32) ≤ x0 then (some (0 : Int32)) else (some (1 : Int32)))
def rm_X6_isShade : Room := { frames := 0, cells := 0, slots := 0, locals := 0 }
set_option maxHeartbeats 4000000 in
set_option maxRecDepth 100000 in
theorem jj_X6_isShade (l : Launch) (g : mm_G) (A : Nat → Prop) (M : mm_M) (x0 : Int32) (r : Int32) (hf : ff_X6_isShade M x0 = some r) : Met l yX6_isShade (mm_ws yX6_isShade cX6_isShade 1 (Option.some Jvm.ClassFile.FieldType.boolean)) rm_X6_isShade (va_Pc [.int x0] (mm_B g A M)) (mm_Ti g A r M) 0 0 A := by
  refine mm_met (g := g) (lv := [(0, .int x0)]) (fun U h => h.2) (by decide +kernel) (Nat.le_of_ble_eq_true rfl) rfl ?_
  intro p e s m args below meth c ls C hr hnm hB hl
  obtain ⟨hR, hK⟩ := hB
  have hx := C.1
  have hb := C.2.1
  suffices hmain : ∀ (H : Heap) (locs : List Loc), mm_R g A M H → va_S A s.heap H locs → W p l e rm_X6_isShade s m args below meth c H locs 0 0 (MQ below (mm_Ti g A r M) args s 0 0 A) (F0 m 0 ls []) from hmain _ _ hR va_S.rf
  clear hR
  intro H locs hR hS
  unfold ff_X6_isShade at hf
  refine lv_iload_n hx hb dX6_isShade_0 rfl (lv_at hl 0 rfl) ?_
  refine lv_if_lt (tgt := 14) hx hb dX6_isShade_1 (by decide) (fun hc => ?_) (fun hc => ?_)
  · have hf := mm_if1 hc hf
    refine lv_iconst (v := 0) hx hb dX6_isShade_14 (by decide) ?_
    exact mm_zre C hR hS hr (Or.inl rfl) ((Option.some.inj hf)) rfl dX6_isShade_15
  · have hf := mm_if0 hc hf
    refine lv_iload_n hx hb dX6_isShade_4 rfl (lv_at hl 0 rfl) ?_
    refine lv_bipush (v := 100) hx hb dX6_isShade_5 (by decide) ?_
    refine lv_icmp_ge (tgt := 14) hx hb dX6_isShade_7 (by decide) (fun hc => ?_) (fun hc => ?_)
    · have hf := mm_if1 hc hf
      refine lv_iconst (v := 0) hx hb dX6_isShade_14 (by decide) ?_
      exact mm_zre C hR hS hr (Or.inl rfl) ((Option.some.inj hf)) rfl dX6_isShade_15
    · have hf := mm_if0 hc hf
      refine lv_iconst (v := 1) hx hb dX6_isShade_10 (by decide) ?_
      refine lv_goto (tgt := 15) hx hb dX6_isShade_11 (by decide) ?_
      exact mm_zre C hR hS hr (Or.inr rfl) ((Option.some.inj hf)) rfl dX6_isShade_15
def ff_X3_lengthOfStrips_l13  (M : mm_M) (x2 : Nat) (x3 : Int32) (x1 : Int32) (x4 : Int32) : Option ((Int32 × Int32) ⊕ (Int32 × Int32)) := if x3 ≤ x4 then (some (.inr (x1, x4))) else (Option.bind (mm_aR 2 M x2 x4) fun v3 => Option.bind (mm_gI 4 M v3 2) fun v4 => some (.inl ((x1 + v4), (x4 + (1 : Int32)))))
def ff_X3_lengthOfStrips (M : mm_M) (x0 : Nat) : Option Int32 := Option.bind (mm_gR 3 M x0 0) fun v1 => Option.bind (mm_ln M v1) fun v2 => Option.bind (mm_it (mm_u2 (ff_X3_lengthOfStrips_l13 M v1 v2)) mm_fu ((0 : Int32), (0 : Int32))) fun e5 => mm_u2 (fun x1_6 x4_7 => some x1_6) e5
def rm_X3_lengthOfStrips : Room := { frames := 0, cells := 0, slots := 0, locals := 0 }
set_option maxHeartbeats 4000000 in
set_option maxRecDepth 100000 in
theorem jj_X3_lengthOfStrips (l : Launch) (g : mm_G) (A : Nat → Prop) (M : mm_M) (x0 : Nat) (r : Int32) (hf : ff_X3_lengthOfStrips M x0 = some r) : Met l yX3_lengthOfStrips (mm_ws yX3_lengthOfStrips cX3_lengthOfStrips 6 (Option.some Jvm.ClassFile.FieldType.int)) rm_X3_lengthOfStrips (va_Pc [.ref x0] (mm_B g A M)) (mm_Ti g A r M) 0 0 A := by
  refine mm_met (g := g) (lv := [(0, .ref x0)]) (fun U h => h.2) (by decide +kernel) (Nat.le_of_ble_eq_true rfl) rfl ?_
  intro p e s m args below meth c ls C hr hnm hB hl
  obtain ⟨hR, hK⟩ := hB
  have hx := C.1
  have hb := C.2.1
  suffices hmain : ∀ (H : Heap) (locs : List Loc), mm_R g A M H → va_S A s.heap H locs → W p l e rm_X3_lengthOfStrips s m args below meth c H locs 0 0 (MQ below (mm_Ti g A r M) args s 0 0 A) (F0 m 0 ls []) from hmain _ _ hR va_S.rf
  clear hR
  intro H locs hR hS
  have L13 : ∀ (x2 : Nat) (x3 : Int32) (e1 : Int32 × Int32) (hX : ∀ (x1 : Int32) (x4 : Int32), e1 = (x1, x4) → ∀ (H : Heap) (locs : List Loc) (ls : Array Slot), mm_R g A M H → va_S A s.heap H locs → lv_has ls 6 [(1, .int x1)] → W p l e rm_X3_lengthOfStrips s m args below meth c H locs 0 0 (MQ below (mm_Ti g A r M) args s 0 0 A) (F0 m 39 ls [])) (n : Nat) (x1 : Int32) (x4 : Int32), mm_it (mm_u2 (ff_X3_lengthOfStrips_l13 M x2 x3)) n (x1, x4) = some e1 → ∀ (H : Heap) (locs : List Loc) (ls : Array Slot), mm_R g A M H → va_S A s.heap H locs → lv_has ls 6 [(1, .int x1), (2, .ref x2), (3, .int x3), (4, .int x4)] → W p l e rm_X3_lengthOfStrips s m args below meth c H locs 0 0 (MQ below (mm_Ti g A r M) args s 0 0 A) (F0 m 13 ls []) := by
    intro x2 x3 e1 hX n x1 x4 hit
    refine mm_itW (Hd := fun st => ∀ (H : Heap) (locs : List Loc) (ls : Array Slot), mm_R g A M H → va_S A s.heap H locs → lv_has ls 6 [(1, .int st.1), (2, .ref x2), (3, .int x3), (4, .int st.2)] → W p l e rm_X3_lengthOfStrips s m args below meth c H locs 0 0 (MQ below (mm_Ti g A r M) args s 0 0 A) (F0 m 13 ls [])) (fun st y hf hin hout => ?_) n (x1, x4) hit
    obtain ⟨x1, x4⟩ := st
    have hf := mm_u2e hf
    intro H locs ls hR hS hl
    unfold ff_X3_lengthOfStrips_l13 at hf
    refine lv_iload hx hb dX3_lengthOfStrips_13 (lv_at hl 3 rfl) ?_
    refine lv_iload_n hx hb dX3_lengthOfStrips_15 rfl (lv_at hl 2 rfl) ?_
    refine lv_icmp_ge (tgt := 39) hx hb dX3_lengthOfStrips_16 (by decide) (fun hc => ?_) (fun hc => ?_)
    · have hf := mm_if1 hc hf
      exact hX _ _ (hout _ (Option.some.inj hf).symm).symm H locs ls hR hS (lv_sub hl [0] rfl)
    · have hf := mm_if0 hc hf
      refine lv_aload_n hx hb dX3_lengthOfStrips_19 rfl (lv_at hl 1 rfl) ?_
      refine lv_iload hx hb dX3_lengthOfStrips_20 (lv_at hl 3 rfl) ?_
      obtain ⟨v3, ev3, hf⟩ := mm_bd hf
      refine mm_aald C hR (fun _ => rfl) ev3 dX3_lengthOfStrips_22 ?_
      refine lv_astore (lv' := [(5, .ref v3), (1, .int x1), (2, .ref x2), (3, .int x3), (4, .int x4)]) hx hb dX3_lengthOfStrips_23 hl (by decide) rfl (fun ls hl => ?_)
      refine lv_iload_n hx hb dX3_lengthOfStrips_25 rfl (lv_at hl 1 rfl) ?_
      refine lv_aload hx hb dX3_lengthOfStrips_26 (lv_at hl 0 rfl) ?_
      obtain ⟨v4, ev4, hf⟩ := mm_bd hf
      refine mm_getI C hR fs_X3_58 ev4 dX3_lengthOfStrips_28 ?_
      refine lv_iadd hx hb dX3_lengthOfStrips_31 ?_
      refine lv_istore_n (lv' := [(1, .int (x1 + v4)), (5, .ref v3), (2, .ref x2), (3, .int x3), (4, .int x4)]) hx hb dX3_lengthOfStrips_32 rfl hl (by decide) rfl (fun ls hl => ?_)
      refine lv_iinc (v := (x4 + (1 : Int32))) (lv' := [(4, .int (x4 + (1 : Int32))), (1, .int (x1 + v4)), (5, .ref v3), (2, .ref x2), (3, .int x3)]) hx hb dX3_lengthOfStrips_33 hl (k := 4) rfl rfl (by decide) rfl (fun ls hl => ?_)
      refine lv_goto (tgt := 13) hx hb dX3_lengthOfStrips_36 (by decide) ?_
      exact hin _ (Option.some.inj hf).symm H locs ls hR hS (lv_sub hl [1, 3, 4, 0] rfl)
  unfold ff_X3_lengthOfStrips at hf
  refine lv_iconst (v := 0) hx hb dX3_lengthOfStrips_0 (by decide) ?_
  refine lv_istore_n (lv' := [(1, .int (0 : Int32)), (0, .ref x0)]) hx hb dX3_lengthOfStrips_1 rfl hl (by decide) rfl (fun ls hl => ?_)
  refine lv_aload_n hx hb dX3_lengthOfStrips_2 rfl (lv_at hl 1 rfl) ?_
  obtain ⟨v1, ev1, hf⟩ := mm_bd hf
  refine mm_getR C hR fs_X3_11 ev1 dX3_lengthOfStrips_3 ?_
  refine lv_astore_n (lv' := [(2, .ref v1), (1, .int (0 : Int32)), (0, .ref x0)]) hx hb dX3_lengthOfStrips_6 rfl hl (by decide) rfl (fun ls hl => ?_)
  refine lv_aload_n hx hb dX3_lengthOfStrips_7 rfl (lv_at hl 0 rfl) ?_
  obtain ⟨v2, ev2, hf⟩ := mm_bd hf
  refine mm_alen C hR ev2 dX3_lengthOfStrips_8 ?_
  refine lv_istore_n (lv' := [(3, .int v2), (2, .ref v1), (1, .int (0 : Int32)), (0, .ref x0)]) hx hb dX3_lengthOfStrips_9 rfl hl (by decide) rfl (fun ls hl => ?_)
  refine lv_iconst (v := 0) hx hb dX3_lengthOfStrips_10 (by decide) ?_
  refine lv_istore (lv' := [(4, .int (0 : Int32)), (3, .int v2), (2, .ref v1), (1, .int (0 : Int32)), (0, .ref x0)]) hx hb dX3_lengthOfStrips_11 hl (by decide) rfl (fun ls hl => ?_)
  obtain ⟨e5, he5, hf⟩ := mm_bd hf
  refine L13 v1 v2 e5 (fun x1_6 x4_7 he => ?_) _ (0 : Int32) (0 : Int32) he5 H locs ls hR hS (lv_sub hl [3, 2, 1, 0] rfl)
  subst he
  intro H locs ls hR hS hl
  have hf := mm_u2e hf
  refine lv_iload_n hx hb dX3_lengthOfStrips_39 rfl (lv_at hl 0 rfl) ?_
  exact mm_ire C hR hS hr ((Option.some.inj hf)) rfl dX3_lengthOfStrips_40
def ff_X3_leftOfStrips_l13  (M : mm_M) (x2 : Nat) (x3 : Int32) (x1 : Int32) (x4 : Int32) : Option ((Int32 × Int32) ⊕ (Int32 × Int32)) := if x3 ≤ x4 then (some (.inr (x1, x4))) else (Option.bind (mm_aR 2 M x2 x4) fun v3 => Option.bind (mm_ck 4 M v3) fun u4 => Option.bind (ff_X4_left M v3) fun v5 => some (.inl ((x1 + v5), (x4 + (1 : Int32)))))
def ff_X3_leftOfStrips (M : mm_M) (x0 : Nat) : Option Int32 := Option.bind (mm_gR 3 M x0 0) fun v1 => Option.bind (mm_ln M v1) fun v2 => Option.bind (mm_it (mm_u2 (ff_X3_leftOfStrips_l13 M v1 v2)) mm_fu ((0 : Int32), (0 : Int32))) fun e6 => mm_u2 (fun x1_7 x4_8 => some x1_7) e6
def rm_X3_leftOfStrips : Room := { frames := 1, cells := 0, slots := 0, locals := 20 }
set_option maxHeartbeats 4000000 in
set_option maxRecDepth 100000 in
theorem jj_X3_leftOfStrips (l : Launch) (g : mm_G) (A : Nat → Prop) (M : mm_M) (x0 : Nat) (r : Int32) (hf : ff_X3_leftOfStrips M x0 = some r) : Met l yX3_leftOfStrips (mm_ws yX3_leftOfStrips cX3_leftOfStrips 6 (Option.some Jvm.ClassFile.FieldType.int)) rm_X3_leftOfStrips (va_Pc [.ref x0] (mm_B g A M)) (mm_Ti g A r M) 0 0 A := by
  refine mm_met (g := g) (lv := [(0, .ref x0)]) (fun U h => h.2) (by decide +kernel) (Nat.le_of_ble_eq_true rfl) rfl ?_
  intro p e s m args below meth c ls C hr hnm hB hl
  obtain ⟨hR, hK⟩ := hB
  have hx := C.1
  have hb := C.2.1
  suffices hmain : ∀ (H : Heap) (locs : List Loc), mm_R g A M H → va_S A s.heap H locs → W p l e rm_X3_leftOfStrips s m args below meth c H locs 0 0 (MQ below (mm_Ti g A r M) args s 0 0 A) (F0 m 0 ls []) from hmain _ _ hR va_S.rf
  clear hR
  intro H locs hR hS
  have L13 : ∀ (x2 : Nat) (x3 : Int32) (e1 : Int32 × Int32) (hX : ∀ (x1 : Int32) (x4 : Int32), e1 = (x1, x4) → ∀ (H : Heap) (locs : List Loc) (ls : Array Slot), mm_R g A M H → va_S A s.heap H locs → lv_has ls 6 [(1, .int x1)] → W p l e rm_X3_leftOfStrips s m args below meth c H locs 0 0 (MQ below (mm_Ti g A r M) args s 0 0 A) (F0 m 39 ls [])) (n : Nat) (x1 : Int32) (x4 : Int32), mm_it (mm_u2 (ff_X3_leftOfStrips_l13 M x2 x3)) n (x1, x4) = some e1 → ∀ (H : Heap) (locs : List Loc) (ls : Array Slot), mm_R g A M H → va_S A s.heap H locs → lv_has ls 6 [(1, .int x1), (2, .ref x2), (3, .int x3), (4, .int x4)] → W p l e rm_X3_leftOfStrips s m args below meth c H locs 0 0 (MQ below (mm_Ti g A r M) args s 0 0 A) (F0 m 13 ls []) := by
    intro x2 x3 e1 hX n x1 x4 hit
    refine mm_itW (Hd := fun st => ∀ (H : Heap) (locs : List Loc) (ls : Array Slot), mm_R g A M H → va_S A s.heap H locs → lv_has ls 6 [(1, .int st.1), (2, .ref x2), (3, .int x3), (4, .int st.2)] → W p l e rm_X3_leftOfStrips s m args below meth c H locs 0 0 (MQ below (mm_Ti g A r M) args s 0 0 A) (F0 m 13 ls [])) (fun st y hf hin hout => ?_) n (x1, x4) hit
    obtain ⟨x1, x4⟩ := st
    have hf := mm_u2e hf
    intro H locs ls hR hS hl
    unfold ff_X3_leftOfStrips_l13 at hf
    refine lv_iload hx hb dX3_leftOfStrips_13 (lv_at hl 3 rfl) ?_
    refine lv_iload_n hx hb dX3_leftOfStrips_15 rfl (lv_at hl 2 rfl) ?_
    refine lv_icmp_ge (tgt := 39) hx hb dX3_leftOfStrips_16 (by decide) (fun hc => ?_) (fun hc => ?_)
    · have hf := mm_if1 hc hf
      exact hX _ _ (hout _ (Option.some.inj hf).symm).symm H locs ls hR hS (lv_sub hl [0] rfl)
    · have hf := mm_if0 hc hf
      refine lv_aload_n hx hb dX3_leftOfStrips_19 rfl (lv_at hl 1 rfl) ?_
      refine lv_iload hx hb dX3_leftOfStrips_20 (lv_at hl 3 rfl) ?_
      obtain ⟨v3, ev3, hf⟩ := mm_bd hf
      refine mm_aald C hR (fun _ => rfl) ev3 dX3_leftOfStrips_22 ?_
      refine lv_astore (lv' := [(5, .ref v3), (1, .int x1), (2, .ref x2), (3, .int x3), (4, .int x4)]) hx hb dX3_leftOfStrips_23 hl (by decide) rfl (fun ls hl => ?_)
      refine lv_iload_n hx hb dX3_leftOfStrips_25 rfl (lv_at hl 1 rfl) ?_
      refine lv_aload hx hb dX3_leftOfStrips_26 (lv_at hl 0 rfl) ?_
      obtain ⟨u4, eu4, hf⟩ := mm_bd hf
      obtain ⟨v5, ev5, hf⟩ := mm_bd hf
      refine mm_callVi (As := []) (rest := [.int x1]) C hR hS hl.1 vs_X3_61 eu4 (jj_X4_left l g A M v3 v5 ev5) ⟨rfl, rfl, (Nat.le_of_ble_eq_true rfl), (Nat.le_of_ble_eq_true rfl)⟩ rfl (Nat.le_of_ble_eq_true rfl) ⟨Nat.zero_le _, Nat.zero_le _⟩ rfl dX3_leftOfStrips_28 (fun H locs hR hS => ?_)
      refine lv_iadd hx hb dX3_leftOfStrips_31 ?_
      refine lv_istore_n (lv' := [(1, .int (x1 + v5)), (5, .ref v3), (2, .ref x2), (3, .int x3), (4, .int x4)]) hx hb dX3_leftOfStrips_32 rfl hl (by decide) rfl (fun ls hl => ?_)
      refine lv_iinc (v := (x4 + (1 : Int32))) (lv' := [(4, .int (x4 + (1 : Int32))), (1, .int (x1 + v5)), (5, .ref v3), (2, .ref x2), (3, .int x3)]) hx hb dX3_leftOfStrips_33 hl (k := 4) rfl rfl (by decide) rfl (fun ls hl => ?_)
      refine lv_goto (tgt := 13) hx hb dX3_leftOfStrips_36 (by decide) ?_
      exact hin _ (Option.some.inj hf).symm H locs ls hR hS (lv_sub hl [1, 3, 4, 0] rfl)
  unfold ff_X3_leftOfStrips at hf
  refine lv_iconst (v := 0) hx hb dX3_leftOfStrips_0 (by decide) ?_
  refine lv_istore_n (lv' := [(1, .int (0 : Int32)), (0, .ref x0)]) hx hb dX3_leftOfStrips_1 rfl hl (by decide) rfl (fun ls hl => ?_)
  refine lv_aload_n hx hb dX3_leftOfStrips_2 rfl (lv_at hl 1 rfl) ?_
  obtain ⟨v1, ev1, hf⟩ := mm_bd hf
  refine mm_getR C hR fs_X3_11 ev1 dX3_leftOfStrips_3 ?_
  refine lv_astore_n (lv' := [(2, .ref v1), (1, .int (0 : Int32)), (0, .ref x0)]) hx hb dX3_leftOfStrips_6 rfl hl (by decide) rfl (fun ls hl => ?_)
  refine lv_aload_n hx hb dX3_leftOfStrips_7 rfl (lv_at hl 0 rfl) ?_
  obtain ⟨v2, ev2, hf⟩ := mm_bd hf
  refine mm_alen C hR ev2 dX3_leftOfStrips_8 ?_
  refine lv_istore_n (lv' := [(3, .int v2), (2, .ref v1), (1, .int (0 : Int32)), (0, .ref x0)]) hx hb dX3_leftOfStrips_9 rfl hl (by decide) rfl (fun ls hl => ?_)
  refine lv_iconst (v := 0) hx hb dX3_leftOfStrips_10 (by decide) ?_
  refine lv_istore (lv' := [(4, .int (0 : Int32)), (3, .int v2), (2, .ref v1), (1, .int (0 : Int32)), (0, .ref x0)]) hx hb dX3_leftOfStrips_11 hl (by decide) rfl (fun ls hl => ?_)
  obtain ⟨e6, he6, hf⟩ := mm_bd hf
  refine L13 v1 v2 e6 (fun x1_7 x4_8 he => ?_) _ (0 : Int32) (0 : Int32) he6 H locs ls hR hS (lv_sub hl [3, 2, 1, 0] rfl)
  subst he
  intro H locs ls hR hS hl
  have hf := mm_u2e hf
  refine lv_iload_n hx hb dX3_leftOfStrips_39 rfl (lv_at hl 0 rfl) ?_
  exact mm_ire C hR hS hr ((Option.some.inj hf)) rfl dX3_leftOfStrips_40
def ff_X3_addStrip (M : mm_M) (x0 : Nat) (x1 : Int32) (x2 : Int32) : Option ((Int32 × mm_M)) := Option.bind (mm_gI 3 M x0 2) fun v1 => Option.bind (mm_gR 3 M x0 0) fun v2 => Option.bind (mm_ln M v2) fun v3 => if v3 ≤ v1 then (some (v1, M)) else (Option.bind (mm_gR 3 M x0 0) fun v4 => Option.bind (mm_aR 2 M v4 v1) fun v5 => Option.bind (mm_ck 4 M v5) fun u6 => Option.bind (ff_X4_begin M v5 x1 x2) fun M7 => Option.bind (mm_gI 3 M7 x0 2) fun v8 => Option.bind (mm_pI 3 M7 x0 2 (v8 + (1 : Int32))) fun M9 => some (v1, M9))
def rm_X3_addStrip : Room := { frames := 1, cells := 0, slots := 0, locals := 22 }
set_option maxHeartbeats 4000000 in
set_option maxRecDepth 100000 in
theorem jj_X3_addStrip (l : Launch) (g : mm_G) (A : Nat → Prop) (M : mm_M) (x0 : Nat) (x1 : Int32) (x2 : Int32) (r : Int32) (M2 : mm_M) (hf : ff_X3_addStrip M x0 x1 x2 = some (r, M2)) : Met l yX3_addStrip (mm_ws yX3_addStrip cX3_addStrip 4 (Option.some Jvm.ClassFile.FieldType.int)) rm_X3_addStrip (va_Pc [.ref x0, .int x1, .int x2] (mm_B g A M)) (mm_Ti g A r M2) 0 0 A := by
  refine mm_met (g := g) (lv := [(0, .ref x0), (1, .int x1), (2, .int x2)]) (fun U h => h.2) (by decide +kernel) (Nat.le_of_ble_eq_true rfl) rfl ?_
  intro p e s m args below meth c ls C hr hnm hB hl
  obtain ⟨hR, hK⟩ := hB
  have hx := C.1
  have hb := C.2.1
  suffices hmain : ∀ (H : Heap) (locs : List Loc), mm_R g A M H → va_S A s.heap H locs → W p l e rm_X3_addStrip s m args below meth c H locs 0 0 (MQ below (mm_Ti g A r M2) args s 0 0 A) (F0 m 0 ls []) from hmain _ _ hR va_S.rf
  clear hR
  intro H locs hR hS
  unfold ff_X3_addStrip at hf
  refine lv_aload_n hx hb dX3_addStrip_0 rfl (lv_at hl 0 rfl) ?_
  obtain ⟨v1, ev1, hf⟩ := mm_bd hf
  refine mm_getI C hR fs_X3_39 ev1 dX3_addStrip_1 ?_
  refine lv_istore_n (lv' := [(3, .int v1), (0, .ref x0), (1, .int x1), (2, .int x2)]) hx hb dX3_addStrip_4 rfl hl (by decide) rfl (fun ls hl => ?_)
  refine lv_iload_n hx hb dX3_addStrip_5 rfl (lv_at hl 0 rfl) ?_
  refine lv_aload_n hx hb dX3_addStrip_6 rfl (lv_at hl 1 rfl) ?_
  obtain ⟨v2, ev2, hf⟩ := mm_bd hf
  refine mm_getR C hR fs_X3_11 ev2 dX3_addStrip_7 ?_
  obtain ⟨v3, ev3, hf⟩ := mm_bd hf
  refine mm_alen C hR ev3 dX3_addStrip_10 ?_
  refine lv_icmp_ge (tgt := 35) hx hb dX3_addStrip_11 (by decide) (fun hc => ?_) (fun hc => ?_)
  · have hf := mm_if1 hc hf
    refine lv_iload_n hx hb dX3_addStrip_35 rfl (lv_at hl 0 rfl) ?_
    exact mm_ire C hR hS hr ((mm_pe hf).1) (mm_pe hf).2 dX3_addStrip_36
  · have hf := mm_if0 hc hf
    refine lv_aload_n hx hb dX3_addStrip_14 rfl (lv_at hl 1 rfl) ?_
    obtain ⟨v4, ev4, hf⟩ := mm_bd hf
    refine mm_getR C hR fs_X3_11 ev4 dX3_addStrip_15 ?_
    refine lv_iload_n hx hb dX3_addStrip_18 rfl (lv_at hl 0 rfl) ?_
    obtain ⟨v5, ev5, hf⟩ := mm_bd hf
    refine mm_aald C hR (fun _ => rfl) ev5 dX3_addStrip_19 ?_
    refine lv_iload_n hx hb dX3_addStrip_20 rfl (lv_at hl 2 rfl) ?_
    refine lv_iload_n hx hb dX3_addStrip_21 rfl (lv_at hl 3 rfl) ?_
    obtain ⟨u6, eu6, hf⟩ := mm_bd hf
    obtain ⟨M7, eM7, hf⟩ := mm_bd hf
    refine mm_callVv (As := [.int x1, .int x2]) (rest := []) C hR hS hl.1 vs_X3_54 eu6 (jj_X4_begin l g A M v5 x1 x2 M7 eM7) ⟨rfl, rfl, (Nat.le_of_ble_eq_true rfl), (Nat.le_of_ble_eq_true rfl)⟩ rfl (Nat.le_of_ble_eq_true rfl) ⟨Nat.zero_le _, Nat.zero_le _⟩ rfl dX3_addStrip_22 (fun H locs hR hS => ?_)
    refine lv_aload_n hx hb dX3_addStrip_25 rfl (lv_at hl 1 rfl) ?_
    refine lv_dup hx hb dX3_addStrip_26 rfl ?_
    obtain ⟨v8, ev8, hf⟩ := mm_bd hf
    refine mm_getI C hR fs_X3_39 ev8 dX3_addStrip_27 ?_
    refine lv_iconst (v := 1) hx hb dX3_addStrip_30 (by decide) ?_
    refine lv_iadd hx hb dX3_addStrip_31 ?_
    obtain ⟨M9, eM9, hf⟩ := mm_bd hf
    refine mm_putI C hR hS ps_X3_39 eM9 dX3_addStrip_32 (fun H locs hR hS => ?_)
    refine lv_iload_n hx hb dX3_addStrip_35 rfl (lv_at hl 0 rfl) ?_
    exact mm_ire C hR hS hr ((mm_pe hf).1) (mm_pe hf).2 dX3_addStrip_36
def ff_X3_stripOrNull (M : mm_M) (x0 : Nat) (x1 : Int32) : Option (Option Nat) := if x1 < (0 : Int32) then (some none) else (Option.bind (mm_gI 3 M x0 2) fun v1 => if v1 ≤ x1 then (some none) else (Option.bind (mm_gR 3 M x0 0) fun v2 => Option.bind (mm_ln M v2) fun v3 => if v3 ≤ x1 then (some none) else (Option.bind (mm_gR 3 M x0 0) fun v4 => Option.bind (mm_aR 2 M v4 x1) fun v5 => some (some v5))))
def rm_X3_stripOrNull : Room := { frames := 0, cells := 0, slots := 0, locals := 0 }
set_option maxHeartbeats 4000000 in
set_option maxRecDepth 100000 in
theorem jj_X3_stripOrNull (l : Launch) (g : mm_G) (A : Nat → Prop) (M : mm_M) (x0 : Nat) (x1 : Int32) (r : Option Nat) (hf : ff_X3_stripOrNull M x0 x1 = some r) : Met l yX3_stripOrNull (mm_ws yX3_stripOrNull cX3_stripOrNull 2 (Option.some (Jvm.ClassFile.FieldType.object "MosaicFloor$Strip"))) rm_X3_stripOrNull (va_Pc [.ref x0, .int x1] (mm_B g A M)) (mm_Tr g A r M) 0 0 A := by
  refine mm_met (g := g) (lv := [(0, .ref x0), (1, .int x1)]) (fun U h => h.2) (by decide +kernel) (Nat.le_of_ble_eq_true rfl) rfl ?_
  intro p e s m args below meth c ls C hr hnm hB hl
  obtain ⟨hR, hK⟩ := hB
  have hx := C.1
  have hb := C.2.1
  suffices hmain : ∀ (H : Heap) (locs : List Loc), mm_R g A M H → va_S A s.heap H locs → W p l e rm_X3_stripOrNull s m args below meth c H locs 0 0 (MQ below (mm_Tr g A r M) args s 0 0 A) (F0 m 0 ls []) from hmain _ _ hR va_S.rf
  clear hR
  intro H locs hR hS
  unfold ff_X3_stripOrNull at hf
  refine lv_iload_n hx hb dX3_stripOrNull_0 rfl (lv_at hl 1 rfl) ?_
  refine lv_if_lt (tgt := 30) hx hb dX3_stripOrNull_1 (by decide) (fun hc => ?_) (fun hc => ?_)
  · have hf := mm_if1 hc hf
    refine lv_null hx hb dX3_stripOrNull_30 ?_
    exact mm_are (v := none) C hR hS hr ((Option.some.inj hf)) rfl dX3_stripOrNull_31
  · have hf := mm_if0 hc hf
    refine lv_iload_n hx hb dX3_stripOrNull_4 rfl (lv_at hl 1 rfl) ?_
    refine lv_aload_n hx hb dX3_stripOrNull_5 rfl (lv_at hl 0 rfl) ?_
    obtain ⟨v1, ev1, hf⟩ := mm_bd hf
    refine mm_getI C hR fs_X3_39 ev1 dX3_stripOrNull_6 ?_
    refine lv_icmp_ge (tgt := 30) hx hb dX3_stripOrNull_9 (by decide) (fun hc => ?_) (fun hc => ?_)
    · have hf := mm_if1 hc hf
      refine lv_null hx hb dX3_stripOrNull_30 ?_
      exact mm_are (v := none) C hR hS hr ((Option.some.inj hf)) rfl dX3_stripOrNull_31
    · have hf := mm_if0 hc hf
      refine lv_iload_n hx hb dX3_stripOrNull_12 rfl (lv_at hl 1 rfl) ?_
      refine lv_aload_n hx hb dX3_stripOrNull_13 rfl (lv_at hl 0 rfl) ?_
      obtain ⟨v2, ev2, hf⟩ := mm_bd hf
      refine mm_getR C hR fs_X3_11 ev2 dX3_stripOrNull_14 ?_
      obtain ⟨v3, ev3, hf⟩ := mm_bd hf
      refine mm_alen C hR ev3 dX3_stripOrNull_17 ?_
      refine lv_icmp_ge (tgt := 30) hx hb dX3_stripOrNull_18 (by decide) (fun hc => ?_) (fun hc => ?_)
      · have hf := mm_if1 hc hf
        refine lv_null hx hb dX3_stripOrNull_30 ?_
        exact mm_are (v := none) C hR hS hr ((Option.some.inj hf)) rfl dX3_stripOrNull_31
      · have hf := mm_if0 hc hf
        refine lv_aload_n hx hb dX3_stripOrNull_21 rfl (lv_at hl 0 rfl) ?_
        obtain ⟨v4, ev4, hf⟩ := mm_bd hf
        refine mm_getR C hR fs_X3_11 ev4 dX3_stripOrNull_22 ?_
        refine lv_iload_n hx hb dX3_stripOrNull_25 rfl (lv_at hl 1 rfl) ?_
        obtain ⟨v5, ev5, hf⟩ := mm_bd hf
        refine mm_aald C hR (fun _ => rfl) ev5 dX3_stripOrNull_26 ?_
        refine lv_goto (tgt := 31) hx hb dX3_stripOrNull_27 (by decide) ?_
        exact mm_are (v := (some v5)) C hR hS hr ((Option.some.inj hf)) rfl dX3_stripOrNull_31
def ff_X3_putAtHand (M : mm_M) (x0 : Nat) (x1 : Int32) : Option mm_M := Option.bind (ff_X6_isShade M x1) fun v1 => if v1 = (0 : Int32) then (some M) else (Option.bind (mm_gR 3 M x0 1) fun v2 => Option.bind (mm_aI 0 M v2 x1) fun v3 => Option.bind (mm_sI 0 M v2 x1 (v3 + (1 : Int32))) fun M4 => some M4)
def rm_X3_putAtHand : Room := { frames := 1, cells := 0, slots := 0, locals := 20 }
set_option maxHeartbeats 4000000 in
set_option maxRecDepth 100000 in
theorem jj_X3_putAtHand (l : Launch) (g : mm_G) (A : Nat → Prop) (M : mm_M) (x0 : Nat) (x1 : Int32) (M2 : mm_M) (hf : ff_X3_putAtHand M x0 x1 = some M2) : Met l yX3_putAtHand (mm_ws yX3_putAtHand cX3_putAtHand 2 (Option.none : Option Jvm.ClassFile.FieldType)) rm_X3_putAtHand (va_Pc [.ref x0, .int x1] (mm_B g A M)) (mm_Tv g A M2) 0 0 A := by
  refine mm_met (g := g) (lv := [(0, .ref x0), (1, .int x1)]) (fun U h => h.2) (by decide +kernel) (Nat.le_of_ble_eq_true rfl) rfl ?_
  intro p e s m args below meth c ls C hr hnm hB hl
  obtain ⟨hR, hK⟩ := hB
  have hx := C.1
  have hb := C.2.1
  suffices hmain : ∀ (H : Heap) (locs : List Loc), mm_R g A M H → va_S A s.heap H locs → W p l e rm_X3_putAtHand s m args below meth c H locs 0 0 (MQ below (mm_Tv g A M2) args s 0 0 A) (F0 m 0 ls []) from hmain _ _ hR va_S.rf
  clear hR
  intro H locs hR hS
  unfold ff_X3_putAtHand at hf
  refine lv_iload_n hx hb dX3_putAtHand_0 rfl (lv_at hl 1 rfl) ?_
  obtain ⟨v1, ev1, hf⟩ := mm_bd hf
  refine mm_callSNi (As := [.int x1]) (rest := []) C hR hS hl.1 C.2.2.2.2.2.1.2.2.2.1 sn_X3_65 (jj_X6_isShade l g A M x1 v1 ev1) ⟨rfl, rfl, (Nat.le_of_ble_eq_true rfl), (Nat.le_of_ble_eq_true rfl)⟩ rfl (Nat.le_of_ble_eq_true rfl) ⟨Nat.zero_le _, Nat.zero_le _⟩ rfl dX3_putAtHand_1 (fun H locs hR hS => ?_)
  refine lv_if_eq (tgt := 17) hx hb dX3_putAtHand_4 (by decide) (fun hc => ?_) (fun hc => ?_)
  · have hf := mm_if1 hc hf
    exact mm_vre C hR hS hr (Option.some.inj hf) dX3_putAtHand_17
  · have hf := mm_if0 hc hf
    refine lv_aload_n hx hb dX3_putAtHand_7 rfl (lv_at hl 0 rfl) ?_
    obtain ⟨v2, ev2, hf⟩ := mm_bd hf
    refine mm_getR C hR fs_X3_17 ev2 dX3_putAtHand_8 ?_
    refine lv_iload_n hx hb dX3_putAtHand_11 rfl (lv_at hl 1 rfl) ?_
    refine lv_dup2_11 hx hb dX3_putAtHand_12 rfl rfl ?_
    obtain ⟨v3, ev3, hf⟩ := mm_bd hf
    refine mm_iald C hR ev3 dX3_putAtHand_13 ?_
    refine lv_iconst (v := 1) hx hb dX3_putAtHand_14 (by decide) ?_
    refine lv_iadd hx hb dX3_putAtHand_15 ?_
    obtain ⟨M4, eM4, hf⟩ := mm_bd hf
    refine mm_iast C hR hS eM4 dX3_putAtHand_16 (fun H locs hR hS => ?_)
    exact mm_vre C hR hS hr (Option.some.inj hf) dX3_putAtHand_17
def ff_X3_addBroken (M : mm_M) (x0 : Nat) : Option mm_M := Option.bind (mm_gI 3 M x0 5) fun v1 => Option.bind (mm_pI 3 M x0 5 (v1 + (1 : Int32))) fun M2 => Option.bind (mm_gI 3 M2 x0 6) fun v3 => Option.bind (mm_gI 3 M2 x0 3) fun v4 => Option.bind (mm_pI 3 M2 x0 6 (v3 + v4)) fun M5 => some M5
def rm_X3_addBroken : Room := { frames := 0, cells := 0, slots := 0, locals := 0 }
set_option maxHeartbeats 4000000 in
set_option maxRecDepth 100000 in
theorem jj_X3_addBroken (l : Launch) (g : mm_G) (A : Nat → Prop) (M : mm_M) (x0 : Nat) (M2 : mm_M) (hf : ff_X3_addBroken M x0 = some M2) : Met l yX3_addBroken (mm_ws yX3_addBroken cX3_addBroken 1 (Option.none : Option Jvm.ClassFile.FieldType)) rm_X3_addBroken (va_Pc [.ref x0] (mm_B g A M)) (mm_Tv g A M2) 0 0 A := by
  refine mm_met (g := g) (lv := [(0, .ref x0)]) (fun U h => h.2) (by decide +kernel) (Nat.le_of_ble_eq_true rfl) rfl ?_
  intro p e s m args below meth c ls C hr hnm hB hl
  obtain ⟨hR, hK⟩ := hB
  have hx := C.1
  have hb := C.2.1
  suffices hmain : ∀ (H : Heap) (locs : List Loc), mm_R g A M H → va_S A s.heap H locs → W p l e rm_X3_addBroken s m args below meth c H locs 0 0 (MQ below (mm_Tv g A M2) args s 0 0 A) (F0 m 0 ls []) from hmain _ _ hR va_S.rf
  clear hR
  intro H locs hR hS
  unfold ff_X3_addBroken at hf
  refine lv_aload_n hx hb dX3_addBroken_0 rfl (lv_at hl 0 rfl) ?_
  refine lv_dup hx hb dX3_addBroken_1 rfl ?_
  obtain ⟨v1, ev1, hf⟩ := mm_bd hf
  refine mm_getI C hR fs_X3_42 ev1 dX3_addBroken_2 ?_
  refine lv_iconst (v := 1) hx hb dX3_addBroken_5 (by decide) ?_
  refine lv_iadd hx hb dX3_addBroken_6 ?_
  obtain ⟨M2, eM2, hf⟩ := mm_bd hf
  refine mm_putI C hR hS ps_X3_42 eM2 dX3_addBroken_7 (fun H locs hR hS => ?_)
  refine lv_aload_n hx hb dX3_addBroken_10 rfl (lv_at hl 0 rfl) ?_
  refine lv_dup hx hb dX3_addBroken_11 rfl ?_
  obtain ⟨v3, ev3, hf⟩ := mm_bd hf
  refine mm_getI C hR fs_X3_45 ev3 dX3_addBroken_12 ?_
  refine lv_aload_n hx hb dX3_addBroken_15 rfl (lv_at hl 0 rfl) ?_
  obtain ⟨v4, ev4, hf⟩ := mm_bd hf
  refine mm_getI C hR fs_X3_21 ev4 dX3_addBroken_16 ?_
  refine lv_iadd hx hb dX3_addBroken_19 ?_
  obtain ⟨M5, eM5, hf⟩ := mm_bd hf
  refine mm_putI C hR hS ps_X3_45 eM5 dX3_addBroken_20 (fun H locs hR hS => ?_)
  exact mm_vre C hR hS hr (Option.some.inj hf) dX3_addBroken_23
def ff_X3_cutFrom (M : mm_M) (x0 : Nat) (x1 : Nat) : Option ((Int32 × mm_M)) := Option.bind (mm_ck 4 M x1) fun u1 => Option.bind (ff_X4_left M x1) fun v2 => Option.bind (mm_gI 3 M x0 3) fun v3 => Option.bind (mm_gI 3 M x0 4) fun v4 => Option.bind (mm_ck 4 M x1) fun u5 => Option.bind (ff_X4_cutOff M x1 v3 v4) (mm_u2 fun v6 M7 => Option.bind (mm_gI 3 M7 x0 7) fun v8 => Option.bind (mm_gI 3 M7 x0 3) fun v9 => Option.bind (mm_ck 4 M7 x1) fun u10 => Option.bind (ff_X4_left M7 x1) fun v11 => Option.bind (mm_pI 3 M7 x0 7 (v8 + ((v2 - v9) - v11))) fun M12 => if v6 = (0 : Int32) then (Option.bind (mm_ck 3 M12 x0) fun u13 => Option.bind (ff_X3_addBroken M12 x0) fun M14 => Option.bind (mm_bz v6) fun b15 => some (b15, M14)) else (Option.bind (mm_gI 4 M12 x1 3) fun v16 => Option.bind (mm_ck 3 M12 x0) fun u17 => Option.bind (ff_X3_putAtHand M12 x0 v16) fun M18 => Option.bind (mm_bz v6) fun b19 => some (b19, M18)))
def rm_X3_cutFrom : Room := { frames := 2, cells := 0, slots := 0, locals := 46 }
set_option maxHeartbeats 4000000 in
set_option maxRecDepth 100000 in
theorem jj_X3_cutFrom (l : Launch) (g : mm_G) (A : Nat → Prop) (M : mm_M) (x0 : Nat) (x1 : Nat) (r : Int32) (M2 : mm_M) (hf : ff_X3_cutFrom M x0 x1 = some (r, M2)) : Met l yX3_cutFrom (mm_ws yX3_cutFrom cX3_cutFrom 4 (Option.some Jvm.ClassFile.FieldType.boolean)) rm_X3_cutFrom (va_Pc [.ref x0, .ref x1] (mm_B g A M)) (mm_Ti g A r M2) 0 0 A := by
  refine mm_met (g := g) (lv := [(0, .ref x0), (1, .ref x1)]) (fun U h => h.2) (by decide +kernel) (Nat.le_of_ble_eq_true rfl) rfl ?_
  intro p e s m args below meth c ls C hr hnm hB hl
  obtain ⟨hR, hK⟩ := hB
  have hx := C.1
  have hb := C.2.1
  suffices hmain : ∀ (H : Heap) (locs : List Loc), mm_R g A M H → va_S A s.heap H locs → W p l e rm_X3_cutFrom s m args below meth c H locs 0 0 (MQ below (mm_Ti g A r M2) args s 0 0 A) (F0 m 0 ls []) from hmain _ _ hR va_S.rf
  clear hR
  intro H locs hR hS
  unfold ff_X3_cutFrom at hf
  refine lv_aload_n hx hb dX3_cutFrom_0 rfl (lv_at hl 1 rfl) ?_
  obtain ⟨u1, eu1, hf⟩ := mm_bd hf
  obtain ⟨v2, ev2, hf⟩ := mm_bd hf
  refine mm_callVi (As := []) (rest := []) C hR hS hl.1 vs_X3_61 eu1 (jj_X4_left l g A M x1 v2 ev2) ⟨rfl, rfl, (Nat.le_of_ble_eq_true rfl), (Nat.le_of_ble_eq_true rfl)⟩ rfl (Nat.le_of_ble_eq_true rfl) ⟨Nat.zero_le _, Nat.zero_le _⟩ rfl dX3_cutFrom_1 (fun H locs hR hS => ?_)
  refine lv_istore_n (lv' := [(2, .int v2), (0, .ref x0), (1, .ref x1)]) hx hb dX3_cutFrom_4 rfl hl (by decide) rfl (fun ls hl => ?_)
  refine lv_aload_n hx hb dX3_cutFrom_5 rfl (lv_at hl 2 rfl) ?_
  refine lv_aload_n hx hb dX3_cutFrom_6 rfl (lv_at hl 1 rfl) ?_
  obtain ⟨v3, ev3, hf⟩ := mm_bd hf
  refine mm_getI C hR fs_X3_21 ev3 dX3_cutFrom_7 ?_
  refine lv_aload_n hx hb dX3_cutFrom_10 rfl (lv_at hl 1 rfl) ?_
  obtain ⟨v4, ev4, hf⟩ := mm_bd hf
  refine mm_getI C hR fs_X3_25 ev4 dX3_cutFrom_11 ?_
  obtain ⟨u5, eu5, hf⟩ := mm_bd hf
  obtain ⟨⟨v6, M7⟩, ev6, hf⟩ := mm_bd hf
  have hf := mm_u2e hf
  refine mm_callVi (As := [.int v3, .int v4]) (rest := []) C hR hS hl.1 vs_X3_116 eu5 (jj_X4_cutOff l g A M x1 v3 v4 v6 M7 ev6) ⟨rfl, rfl, (Nat.le_of_ble_eq_true rfl), (Nat.le_of_ble_eq_true rfl)⟩ rfl (Nat.le_of_ble_eq_true rfl) ⟨Nat.zero_le _, Nat.zero_le _⟩ rfl dX3_cutFrom_14 (fun H locs hR hS => ?_)
  refine lv_istore_n (lv' := [(3, .int v6), (2, .int v2), (0, .ref x0), (1, .ref x1)]) hx hb dX3_cutFrom_17 rfl hl (by decide) rfl (fun ls hl => ?_)
  refine lv_aload_n hx hb dX3_cutFrom_18 rfl (lv_at hl 2 rfl) ?_
  refine lv_dup hx hb dX3_cutFrom_19 rfl ?_
  obtain ⟨v8, ev8, hf⟩ := mm_bd hf
  refine mm_getI C hR fs_X3_48 ev8 dX3_cutFrom_20 ?_
  refine lv_iload_n hx hb dX3_cutFrom_23 rfl (lv_at hl 1 rfl) ?_
  refine lv_aload_n hx hb dX3_cutFrom_24 rfl (lv_at hl 2 rfl) ?_
  obtain ⟨v9, ev9, hf⟩ := mm_bd hf
  refine mm_getI C hR fs_X3_21 ev9 dX3_cutFrom_25 ?_
  refine lv_isub hx hb dX3_cutFrom_28 ?_
  refine lv_aload_n hx hb dX3_cutFrom_29 rfl (lv_at hl 3 rfl) ?_
  obtain ⟨u10, eu10, hf⟩ := mm_bd hf
  obtain ⟨v11, ev11, hf⟩ := mm_bd hf
  refine mm_callVi (As := []) (rest := [.int (v2 - v9), .int v8, .ref x0]) C hR hS hl.1 vs_X3_61 eu10 (jj_X4_left l g A M7 x1 v11 ev11) ⟨rfl, rfl, (Nat.le_of_ble_eq_true rfl), (Nat.le_of_ble_eq_true rfl)⟩ rfl (Nat.le_of_ble_eq_true rfl) ⟨Nat.zero_le _, Nat.zero_le _⟩ rfl dX3_cutFrom_30 (fun H locs hR hS => ?_)
  refine lv_isub hx hb dX3_cutFrom_33 ?_
  refine lv_iadd hx hb dX3_cutFrom_34 ?_
  obtain ⟨M12, eM12, hf⟩ := mm_bd hf
  refine mm_putI C hR hS ps_X3_48 eM12 dX3_cutFrom_35 (fun H locs hR hS => ?_)
  refine lv_iload_n hx hb dX3_cutFrom_38 rfl (lv_at hl 0 rfl) ?_
  refine lv_if_eq (tgt := 53) hx hb dX3_cutFrom_39 (by decide) (fun hc => ?_) (fun hc => ?_)
  · have hf := mm_if1 hc hf
    refine lv_aload_n hx hb dX3_cutFrom_53 rfl (lv_at hl 2 rfl) ?_
    obtain ⟨u13, eu13, hf⟩ := mm_bd hf
    obtain ⟨M14, eM14, hf⟩ := mm_bd hf
    refine mm_callVv (As := []) (rest := []) C hR hS hl.1 vs_X3_123 eu13 (jj_X3_addBroken l g A M12 x0 M14 eM14) ⟨rfl, rfl, (Nat.le_of_ble_eq_true rfl), (Nat.le_of_ble_eq_true rfl)⟩ rfl (Nat.le_of_ble_eq_true rfl) ⟨Nat.zero_le _, Nat.zero_le _⟩ rfl dX3_cutFrom_54 (fun H locs hR hS => ?_)
    refine lv_iload_n hx hb dX3_cutFrom_57 rfl (lv_at hl 0 rfl) ?_
    obtain ⟨b15, eb15, hf⟩ := mm_bd hf
    exact mm_zre C hR hS hr (mm_bz_s eb15).1 ((mm_bz_s eb15).2.trans (mm_pe hf).1) (mm_pe hf).2 dX3_cutFrom_58
  · have hf := mm_if0 hc hf
    refine lv_aload_n hx hb dX3_cutFrom_42 rfl (lv_at hl 2 rfl) ?_
    refine lv_aload_n hx hb dX3_cutFrom_43 rfl (lv_at hl 3 rfl) ?_
    obtain ⟨v16, ev16, hf⟩ := mm_bd hf
    refine mm_getI C hR fs_X3_82 ev16 dX3_cutFrom_44 ?_
    obtain ⟨u17, eu17, hf⟩ := mm_bd hf
    obtain ⟨M18, eM18, hf⟩ := mm_bd hf
    refine mm_callVv (As := [.int v16]) (rest := []) C hR hS hl.1 vs_X3_119 eu17 (jj_X3_putAtHand l g A M12 x0 v16 M18 eM18) ⟨rfl, rfl, (Nat.le_of_ble_eq_true rfl), (Nat.le_of_ble_eq_true rfl)⟩ rfl (Nat.le_of_ble_eq_true rfl) ⟨Nat.zero_le _, Nat.zero_le _⟩ rfl dX3_cutFrom_47 (fun H locs hR hS => ?_)
    refine lv_goto (tgt := 57) hx hb dX3_cutFrom_50 (by decide) ?_
    refine lv_iload_n hx hb dX3_cutFrom_57 rfl (lv_at hl 0 rfl) ?_
    obtain ⟨b19, eb19, hf⟩ := mm_bd hf
    exact mm_zre C hR hS hr (mm_bz_s eb19).1 ((mm_bz_s eb19).2.trans (mm_pe hf).1) (mm_pe hf).2 dX3_cutFrom_58
def ff_X3_nearer (M : mm_M) (x0 : Int32) (x1 : Int32) (x2 : Int32) : Option Int32 := if x1 = (-1 : Int32) then (some x2) else (if (mm_ab (x1 - x0)) = (mm_ab (x2 - x0)) then (some (mm_mn x1 x2)) else (if (mm_ab (x2 - x0)) ≤ (mm_ab (x1 - x0)) then (some x2) else (some x1)))
def rm_X3_nearer : Room := { frames := 1, cells := 0, slots := 0, locals := 21 }
set_option maxHeartbeats 4000000 in
set_option maxRecDepth 100000 in
theorem jj_X3_nearer (l : Launch) (g : mm_G) (A : Nat → Prop) (M : mm_M) (x0 : Int32) (x1 : Int32) (x2 : Int32) (r : Int32) (hf : ff_X3_nearer M x0 x1 x2 = some r) : Met l yX3_nearer (mm_ws yX3_nearer cX3_nearer 5 (Option.some Jvm.ClassFile.FieldType.int)) rm_X3_nearer (va_Pc [.int x0, .int x1, .int x2] (mm_B g A M)) (mm_Ti g A r M) 0 0 A := by
  refine mm_met (g := g) (lv := [(0, .int x0), (1, .int x1), (2, .int x2)]) (fun U h => h.2) (by decide +kernel) (Nat.le_of_ble_eq_true rfl) rfl ?_
  intro p e s m args below meth c ls C hr hnm hB hl
  obtain ⟨hR, hK⟩ := hB
  have hx := C.1
  have hb := C.2.1
  suffices hmain : ∀ (H : Heap) (locs : List Loc), mm_R g A M H → va_S A s.heap H locs → W p l e rm_X3_nearer s m args below meth c H locs 0 0 (MQ below (mm_Ti g A r M) args s 0 0 A) (F0 m 0 ls []) from hmain _ _ hR va_S.rf
  clear hR
  intro H locs hR hS
  unfold ff_X3_nearer at hf
  refine lv_iload_n hx hb dX3_nearer_0 rfl (lv_at hl 1 rfl) ?_
  refine lv_iconst (v := -1) hx hb dX3_nearer_1 (by decide) ?_
  refine lv_icmp_ne (tgt := 7) hx hb dX3_nearer_2 (by decide) (fun hc => ?_) (fun hc => ?_)
  · have hf := mm_if0 hc hf
    refine lv_iload_n hx hb dX3_nearer_7 rfl (lv_at hl 1 rfl) ?_
    refine lv_iload_n hx hb dX3_nearer_8 rfl (lv_at hl 0 rfl) ?_
    refine lv_isub hx hb dX3_nearer_9 ?_
    refine mm_abs C hl.1 mw_503 mw_335 mw_9 mc_abs (Nat.le_of_ble_eq_true rfl) (Nat.le_of_ble_eq_true rfl) ⟨Nat.zero_le _, Nat.zero_le _⟩ dX3_nearer_10 ?_
    refine lv_istore_n (lv' := [(3, .int (mm_ab (x1 - x0))), (0, .int x0), (1, .int x1), (2, .int x2)]) hx hb dX3_nearer_13 rfl hl (by decide) rfl (fun ls hl => ?_)
    refine lv_iload_n hx hb dX3_nearer_14 rfl (lv_at hl 3 rfl) ?_
    refine lv_iload_n hx hb dX3_nearer_15 rfl (lv_at hl 1 rfl) ?_
    refine lv_isub hx hb dX3_nearer_16 ?_
    refine mm_abs C hl.1 mw_503 mw_335 mw_9 mc_abs (Nat.le_of_ble_eq_true rfl) (Nat.le_of_ble_eq_true rfl) ⟨Nat.zero_le _, Nat.zero_le _⟩ dX3_nearer_17 ?_
    refine lv_istore (lv' := [(4, .int (mm_ab (x2 - x0))), (3, .int (mm_ab (x1 - x0))), (0, .int x0), (1, .int x1), (2, .int x2)]) hx hb dX3_nearer_20 hl (by decide) rfl (fun ls hl => ?_)
    refine lv_iload_n hx hb dX3_nearer_22 rfl (lv_at hl 1 rfl) ?_
    refine lv_iload hx hb dX3_nearer_23 (lv_at hl 0 rfl) ?_
    refine lv_icmp_ne (tgt := 34) hx hb dX3_nearer_25 (by decide) (fun hc => ?_) (fun hc => ?_)
    · have hf := mm_if0 hc hf
      refine lv_iload_n hx hb dX3_nearer_34 rfl (lv_at hl 1 rfl) ?_
      refine lv_iload hx hb dX3_nearer_35 (lv_at hl 0 rfl) ?_
      refine lv_icmp_ge (tgt := 44) hx hb dX3_nearer_37 (by decide) (fun hc => ?_) (fun hc => ?_)
      · have hf := mm_if1 hc hf
        refine lv_iload_n hx hb dX3_nearer_44 rfl (lv_at hl 4 rfl) ?_
        exact mm_ire C hR hS hr ((Option.some.inj hf)) rfl dX3_nearer_45
      · have hf := mm_if0 hc hf
        refine lv_iload_n hx hb dX3_nearer_40 rfl (lv_at hl 3 rfl) ?_
        refine lv_goto (tgt := 45) hx hb dX3_nearer_41 (by decide) ?_
        exact mm_ire C hR hS hr ((Option.some.inj hf)) rfl dX3_nearer_45
    · have hf := mm_if1 hc hf
      refine lv_iload_n hx hb dX3_nearer_28 rfl (lv_at hl 3 rfl) ?_
      refine lv_iload_n hx hb dX3_nearer_29 rfl (lv_at hl 4 rfl) ?_
      refine mm_min C hl.1 mw_504 mw_309 mw_9 mc_min (Nat.le_of_ble_eq_true rfl) (Nat.le_of_ble_eq_true rfl) ⟨Nat.zero_le _, Nat.zero_le _⟩ dX3_nearer_30 ?_
      exact mm_ire C hR hS hr ((Option.some.inj hf)) rfl dX3_nearer_33
  · have hf := mm_if1 hc hf
    refine lv_iload_n hx hb dX3_nearer_5 rfl (lv_at hl 2 rfl) ?_
    exact mm_ire C hR hS hr ((Option.some.inj hf)) rfl dX3_nearer_6
def ff_X3_nearestShadeOrNone_j29 (M : mm_M) (x0 : Nat) (x1 : Int32) (x2 : Int32) (x3 : Int32) : Option ((Int32 × Int32) ⊕ (Int32 × Int32)) := some (.inl (x2, (x3 + (1 : Int32))))
def ff_X3_nearestShadeOrNone_l4  (M : mm_M) (x0 : Nat) (x1 : Int32) (x2 : Int32) (x3 : Int32) : Option ((Int32 × Int32) ⊕ (Int32 × Int32)) := Option.bind (mm_gR 3 M x0 1) fun v1 => Option.bind (mm_ln M v1) fun v2 => if v2 ≤ x3 then (some (.inr (x2, x3))) else (Option.bind (mm_gR 3 M x0 1) fun v3 => Option.bind (mm_aI 0 M v3 x3) fun v4 => if v4 ≤ (0 : Int32) then (ff_X3_nearestShadeOrNone_j29 M x0 x1 x2 x3) else (Option.bind (ff_X3_nearer M x1 x2 x3) fun v5 => ff_X3_nearestShadeOrNone_j29 M x0 x1 v5 x3))
def ff_X3_nearestShadeOrNone_j87 (M : mm_M) (x0 : Nat) (x1 : Int32) (x2 : Int32) (x3 : Nat) (x4 : Int32) (x5 : Int32) : Option ((Int32 × Int32) ⊕ (Int32 × Int32)) := some (.inl (x2, (x5 + (1 : Int32))))
def ff_X3_nearestShadeOrNone_l47  (M : mm_M) (x0 : Nat) (x1 : Int32) (x3 : Nat) (x4 : Int32) (x2 : Int32) (x5 : Int32) : Option ((Int32 × Int32) ⊕ (Int32 × Int32)) := if x4 ≤ x5 then (some (.inr (x2, x5))) else (Option.bind (mm_aR 2 M x3 x5) fun v11 => Option.bind (mm_gI 3 M x0 3) fun v12 => Option.bind (mm_gI 3 M x0 4) fun v13 => Option.bind (mm_ck 4 M v11) fun u14 => Option.bind (ff_X4_givesGood M v11 v12 v13) fun v15 => if v15 = (0 : Int32) then (ff_X3_nearestShadeOrNone_j87 M x0 x1 x2 x3 x4 x5) else (Option.bind (mm_gI 4 M v11 3) fun v16 => Option.bind (ff_X3_nearer M x1 x2 v16) fun v17 => ff_X3_nearestShadeOrNone_j87 M x0 x1 v17 x3 x4 x5))
def ff_X3_nearestShadeOrNone (M : mm_M) (x0 : Nat) (x1 : Int32) : Option Int32 := Option.bind (mm_it (mm_u2 (ff_X3_nearestShadeOrNone_l4 M x0 x1)) mm_fu ((-1 : Int32), (0 : Int32))) fun e6 => mm_u2 (fun x2_7 x3_8 => Option.bind (mm_gR 3 M x0 0) fun v9 => Option.bind (mm_ln M v9) fun v10 => Option.bind (mm_it (mm_u2 (ff_X3_nearestShadeOrNone_l47 M x0 x1 v9 v10)) mm_fu (x2_7, (0 : Int32))) fun e18 => mm_u2 (fun x2_19 x5_20 => some x2_19) e18) e6
def rm_X3_nearestShadeOrNone : Room := { frames := 2, cells := 0, slots := 0, locals := 49 }
set_option maxHeartbeats 4000000 in
set_option maxRecDepth 100000 in
theorem jj_X3_nearestShadeOrNone (l : Launch) (g : mm_G) (A : Nat → Prop) (M : mm_M) (x0 : Nat) (x1 : Int32) (r : Int32) (hf : ff_X3_nearestShadeOrNone M x0 x1 = some r) : Met l yX3_nearestShadeOrNone (mm_ws yX3_nearestShadeOrNone cX3_nearestShadeOrNone 7 (Option.some Jvm.ClassFile.FieldType.int)) rm_X3_nearestShadeOrNone (va_Pc [.ref x0, .int x1] (mm_B g A M)) (mm_Ti g A r M) 0 0 A := by
  refine mm_met (g := g) (lv := [(0, .ref x0), (1, .int x1)]) (fun U h => h.2) (by decide +kernel) (Nat.le_of_ble_eq_true rfl) rfl ?_
  intro p e s m args below meth c ls C hr hnm hB hl
  obtain ⟨hR, hK⟩ := hB
  have hx := C.1
  have hb := C.2.1
  suffices hmain : ∀ (H : Heap) (locs : List Loc), mm_R g A M H → va_S A s.heap H locs → W p l e rm_X3_nearestShadeOrNone s m args below meth c H locs 0 0 (MQ below (mm_Ti g A r M) args s 0 0 A) (F0 m 0 ls []) from hmain _ _ hR va_S.rf
  clear hR
  intro H locs hR hS
  have L4 : ∀ (x0 : Nat) (x1 : Int32) (e1 : Int32 × Int32) (hX : ∀ (x2 : Int32) (x3 : Int32), e1 = (x2, x3) → ∀ (H : Heap) (locs : List Loc) (ls : Array Slot), mm_R g A M H → va_S A s.heap H locs → lv_has ls 7 [(0, .ref x0), (1, .int x1), (2, .int x2)] → W p l e rm_X3_nearestShadeOrNone s m args below meth c H locs 0 0 (MQ below (mm_Ti g A r M) args s 0 0 A) (F0 m 35 ls [])) (n : Nat) (x2 : Int32) (x3 : Int32), mm_it (mm_u2 (ff_X3_nearestShadeOrNone_l4 M x0 x1)) n (x2, x3) = some e1 → ∀ (H : Heap) (locs : List Loc) (ls : Array Slot), mm_R g A M H → va_S A s.heap H locs → lv_has ls 7 [(0, .ref x0), (1, .int x1), (2, .int x2), (3, .int x3)] → W p l e rm_X3_nearestShadeOrNone s m args below meth c H locs 0 0 (MQ below (mm_Ti g A r M) args s 0 0 A) (F0 m 4 ls []) := by
    intro x0 x1 e1 hX n x2 x3 hit
    refine mm_itW (Hd := fun st => ∀ (H : Heap) (locs : List Loc) (ls : Array Slot), mm_R g A M H → va_S A s.heap H locs → lv_has ls 7 [(0, .ref x0), (1, .int x1), (2, .int st.1), (3, .int st.2)] → W p l e rm_X3_nearestShadeOrNone s m args below meth c H locs 0 0 (MQ below (mm_Ti g A r M) args s 0 0 A) (F0 m 4 ls [])) (fun st y hf hin hout => ?_) n (x2, x3) hit
    obtain ⟨x2, x3⟩ := st
    have hf := mm_u2e hf
    have J29 : ∀ (x2 : Int32) (x3 : Int32) (H : Heap) (locs : List Loc) (ls : Array Slot), mm_R g A M H → va_S A s.heap H locs → lv_has ls 7 [(0, .ref x0), (1, .int x1), (2, .int x2), (3, .int x3)] → ff_X3_nearestShadeOrNone_j29 M x0 x1 x2 x3 = some y → W p l e rm_X3_nearestShadeOrNone s m args below meth c H locs 0 0 (MQ below (mm_Ti g A r M) args s 0 0 A) (F0 m 29 ls []) := by
      intro x2 x3 H locs ls hR hS hl hf
      unfold ff_X3_nearestShadeOrNone_j29 at hf
      refine lv_iinc (v := (x3 + (1 : Int32))) (lv' := [(3, .int (x3 + (1 : Int32))), (0, .ref x0), (1, .int x1), (2, .int x2)]) hx hb dX3_nearestShadeOrNone_29 hl (k := 3) rfl rfl (by decide) rfl (fun ls hl => ?_)
      refine lv_goto (tgt := 4) hx hb dX3_nearestShadeOrNone_32 (by decide) ?_
      exact hin _ (Option.some.inj hf).symm H locs ls hR hS (lv_sub hl [1, 2, 3, 0] rfl)
    intro H locs ls hR hS hl
    unfold ff_X3_nearestShadeOrNone_l4 at hf
    refine lv_iload_n hx hb dX3_nearestShadeOrNone_4 rfl (lv_at hl 3 rfl) ?_
    refine lv_aload_n hx hb dX3_nearestShadeOrNone_5 rfl (lv_at hl 0 rfl) ?_
    obtain ⟨v1, ev1, hf⟩ := mm_bd hf
    refine mm_getR C hR fs_X3_17 ev1 dX3_nearestShadeOrNone_6 ?_
    obtain ⟨v2, ev2, hf⟩ := mm_bd hf
    refine mm_alen C hR ev2 dX3_nearestShadeOrNone_9 ?_
    refine lv_icmp_ge (tgt := 35) hx hb dX3_nearestShadeOrNone_10 (by decide) (fun hc => ?_) (fun hc => ?_)
    · have hf := mm_if1 hc hf
      exact hX _ _ (hout _ (Option.some.inj hf).symm).symm H locs ls hR hS (lv_sub hl [0, 1, 2] rfl)
    · have hf := mm_if0 hc hf
      refine lv_aload_n hx hb dX3_nearestShadeOrNone_13 rfl (lv_at hl 0 rfl) ?_
      obtain ⟨v3, ev3, hf⟩ := mm_bd hf
      refine mm_getR C hR fs_X3_17 ev3 dX3_nearestShadeOrNone_14 ?_
      refine lv_iload_n hx hb dX3_nearestShadeOrNone_17 rfl (lv_at hl 3 rfl) ?_
      obtain ⟨v4, ev4, hf⟩ := mm_bd hf
      refine mm_iald C hR ev4 dX3_nearestShadeOrNone_18 ?_
      refine lv_if_le (tgt := 29) hx hb dX3_nearestShadeOrNone_19 (by decide) (fun hc => ?_) (fun hc => ?_)
      · have hf := mm_if1 hc hf
        exact J29 x2 x3 H locs ls hR hS (lv_sub hl [0, 1, 2, 3] rfl) hf
      · have hf := mm_if0 hc hf
        refine lv_iload_n hx hb dX3_nearestShadeOrNone_22 rfl (lv_at hl 1 rfl) ?_
        refine lv_iload_n hx hb dX3_nearestShadeOrNone_23 rfl (lv_at hl 2 rfl) ?_
        refine lv_iload_n hx hb dX3_nearestShadeOrNone_24 rfl (lv_at hl 3 rfl) ?_
        obtain ⟨v5, ev5, hf⟩ := mm_bd hf
        refine mm_callSi (As := [.int x1, .int x2, .int x3]) (rest := []) C hR hS hl.1 ss_X3_89 (jj_X3_nearer l g A M x1 x2 x3 v5 ev5) ⟨rfl, rfl, (Nat.le_of_ble_eq_true rfl), (Nat.le_of_ble_eq_true rfl)⟩ rfl (Nat.le_of_ble_eq_true rfl) ⟨Nat.zero_le _, Nat.zero_le _⟩ rfl dX3_nearestShadeOrNone_25 (fun H locs hR hS => ?_)
        refine lv_istore_n (lv' := [(2, .int v5), (0, .ref x0), (1, .int x1), (3, .int x3)]) hx hb dX3_nearestShadeOrNone_28 rfl hl (by decide) rfl (fun ls hl => ?_)
        exact J29 v5 x3 H locs ls hR hS (lv_sub hl [1, 2, 0, 3] rfl) hf
  have L47 : ∀ (x0 : Nat) (x1 : Int32) (x3 : Nat) (x4 : Int32) (e1 : Int32 × Int32) (hX : ∀ (x2 : Int32) (x5 : Int32), e1 = (x2, x5) → ∀ (H : Heap) (locs : List Loc) (ls : Array Slot), mm_R g A M H → va_S A s.heap H locs → lv_has ls 7 [(2, .int x2)] → W p l e rm_X3_nearestShadeOrNone s m args below meth c H locs 0 0 (MQ below (mm_Ti g A r M) args s 0 0 A) (F0 m 93 ls [])) (n : Nat) (x2 : Int32) (x5 : Int32), mm_it (mm_u2 (ff_X3_nearestShadeOrNone_l47 M x0 x1 x3 x4)) n (x2, x5) = some e1 → ∀ (H : Heap) (locs : List Loc) (ls : Array Slot), mm_R g A M H → va_S A s.heap H locs → lv_has ls 7 [(0, .ref x0), (1, .int x1), (2, .int x2), (3, .ref x3), (4, .int x4), (5, .int x5)] → W p l e rm_X3_nearestShadeOrNone s m args below meth c H locs 0 0 (MQ below (mm_Ti g A r M) args s 0 0 A) (F0 m 47 ls []) := by
    intro x0 x1 x3 x4 e1 hX n x2 x5 hit
    refine mm_itW (Hd := fun st => ∀ (H : Heap) (locs : List Loc) (ls : Array Slot), mm_R g A M H → va_S A s.heap H locs → lv_has ls 7 [(0, .ref x0), (1, .int x1), (2, .int st.1), (3, .ref x3), (4, .int x4), (5, .int st.2)] → W p l e rm_X3_nearestShadeOrNone s m args below meth c H locs 0 0 (MQ below (mm_Ti g A r M) args s 0 0 A) (F0 m 47 ls [])) (fun st y hf hin hout => ?_) n (x2, x5) hit
    obtain ⟨x2, x5⟩ := st
    have hf := mm_u2e hf
    have J87 : ∀ (x2 : Int32) (x5 : Int32) (H : Heap) (locs : List Loc) (ls : Array Slot), mm_R g A M H → va_S A s.heap H locs → lv_has ls 7 [(0, .ref x0), (1, .int x1), (2, .int x2), (3, .ref x3), (4, .int x4), (5, .int x5)] → ff_X3_nearestShadeOrNone_j87 M x0 x1 x2 x3 x4 x5 = some y → W p l e rm_X3_nearestShadeOrNone s m args below meth c H locs 0 0 (MQ below (mm_Ti g A r M) args s 0 0 A) (F0 m 87 ls []) := by
      intro x2 x5 H locs ls hR hS hl hf
      unfold ff_X3_nearestShadeOrNone_j87 at hf
      refine lv_iinc (v := (x5 + (1 : Int32))) (lv' := [(5, .int (x5 + (1 : Int32))), (0, .ref x0), (1, .int x1), (2, .int x2), (3, .ref x3), (4, .int x4)]) hx hb dX3_nearestShadeOrNone_87 hl (k := 5) rfl rfl (by decide) rfl (fun ls hl => ?_)
      refine lv_goto (tgt := 47) hx hb dX3_nearestShadeOrNone_90 (by decide) ?_
      exact hin _ (Option.some.inj hf).symm H locs ls hR hS (lv_sub hl [1, 2, 3, 4, 5, 0] rfl)
    intro H locs ls hR hS hl
    unfold ff_X3_nearestShadeOrNone_l47 at hf
    refine lv_iload hx hb dX3_nearestShadeOrNone_47 (lv_at hl 5 rfl) ?_
    refine lv_iload hx hb dX3_nearestShadeOrNone_49 (lv_at hl 4 rfl) ?_
    refine lv_icmp_ge (tgt := 93) hx hb dX3_nearestShadeOrNone_51 (by decide) (fun hc => ?_) (fun hc => ?_)
    · have hf := mm_if1 hc hf
      exact hX _ _ (hout _ (Option.some.inj hf).symm).symm H locs ls hR hS (lv_sub hl [2] rfl)
    · have hf := mm_if0 hc hf
      refine lv_aload_n hx hb dX3_nearestShadeOrNone_54 rfl (lv_at hl 3 rfl) ?_
      refine lv_iload hx hb dX3_nearestShadeOrNone_55 (lv_at hl 5 rfl) ?_
      obtain ⟨v11, ev11, hf⟩ := mm_bd hf
      refine mm_aald C hR (fun _ => rfl) ev11 dX3_nearestShadeOrNone_57 ?_
      refine lv_astore (lv' := [(6, .ref v11), (0, .ref x0), (1, .int x1), (2, .int x2), (3, .ref x3), (4, .int x4), (5, .int x5)]) hx hb dX3_nearestShadeOrNone_58 hl (by decide) rfl (fun ls hl => ?_)
      refine lv_aload hx hb dX3_nearestShadeOrNone_60 (lv_at hl 0 rfl) ?_
      refine lv_aload_n hx hb dX3_nearestShadeOrNone_62 rfl (lv_at hl 1 rfl) ?_
      obtain ⟨v12, ev12, hf⟩ := mm_bd hf
      refine mm_getI C hR fs_X3_21 ev12 dX3_nearestShadeOrNone_63 ?_
      refine lv_aload_n hx hb dX3_nearestShadeOrNone_66 rfl (lv_at hl 1 rfl) ?_
      obtain ⟨v13, ev13, hf⟩ := mm_bd hf
      refine mm_getI C hR fs_X3_25 ev13 dX3_nearestShadeOrNone_67 ?_
      obtain ⟨u14, eu14, hf⟩ := mm_bd hf
      obtain ⟨v15, ev15, hf⟩ := mm_bd hf
      refine mm_callVi (As := [.int v12, .int v13]) (rest := []) C hR hS hl.1 vs_X3_93 eu14 (jj_X4_givesGood l g A M v11 v12 v13 v15 ev15) ⟨rfl, rfl, (Nat.le_of_ble_eq_true rfl), (Nat.le_of_ble_eq_true rfl)⟩ rfl (Nat.le_of_ble_eq_true rfl) ⟨Nat.zero_le _, Nat.zero_le _⟩ rfl dX3_nearestShadeOrNone_70 (fun H locs hR hS => ?_)
      refine lv_if_eq (tgt := 87) hx hb dX3_nearestShadeOrNone_73 (by decide) (fun hc => ?_) (fun hc => ?_)
      · have hf := mm_if1 hc hf
        exact J87 x2 x5 H locs ls hR hS (lv_sub hl [1, 2, 3, 4, 5, 6] rfl) hf
      · have hf := mm_if0 hc hf
        refine lv_iload_n hx hb dX3_nearestShadeOrNone_76 rfl (lv_at hl 2 rfl) ?_
        refine lv_iload_n hx hb dX3_nearestShadeOrNone_77 rfl (lv_at hl 3 rfl) ?_
        refine lv_aload hx hb dX3_nearestShadeOrNone_78 (lv_at hl 0 rfl) ?_
        obtain ⟨v16, ev16, hf⟩ := mm_bd hf
        refine mm_getI C hR fs_X3_82 ev16 dX3_nearestShadeOrNone_80 ?_
        obtain ⟨v17, ev17, hf⟩ := mm_bd hf
        refine mm_callSi (As := [.int x1, .int x2, .int v16]) (rest := []) C hR hS hl.1 ss_X3_89 (jj_X3_nearer l g A M x1 x2 v16 v17 ev17) ⟨rfl, rfl, (Nat.le_of_ble_eq_true rfl), (Nat.le_of_ble_eq_true rfl)⟩ rfl (Nat.le_of_ble_eq_true rfl) ⟨Nat.zero_le _, Nat.zero_le _⟩ rfl dX3_nearestShadeOrNone_83 (fun H locs hR hS => ?_)
        refine lv_istore_n (lv' := [(2, .int v17), (6, .ref v11), (0, .ref x0), (1, .int x1), (3, .ref x3), (4, .int x4), (5, .int x5)]) hx hb dX3_nearestShadeOrNone_86 rfl hl (by decide) rfl (fun ls hl => ?_)
        exact J87 v17 x5 H locs ls hR hS (lv_sub hl [2, 3, 0, 4, 5, 6] rfl) hf
  unfold ff_X3_nearestShadeOrNone at hf
  refine lv_iconst (v := -1) hx hb dX3_nearestShadeOrNone_0 (by decide) ?_
  refine lv_istore_n (lv' := [(2, .int (-1 : Int32)), (0, .ref x0), (1, .int x1)]) hx hb dX3_nearestShadeOrNone_1 rfl hl (by decide) rfl (fun ls hl => ?_)
  refine lv_iconst (v := 0) hx hb dX3_nearestShadeOrNone_2 (by decide) ?_
  refine lv_istore_n (lv' := [(3, .int (0 : Int32)), (2, .int (-1 : Int32)), (0, .ref x0), (1, .int x1)]) hx hb dX3_nearestShadeOrNone_3 rfl hl (by decide) rfl (fun ls hl => ?_)
  obtain ⟨e6, he6, hf⟩ := mm_bd hf
  refine L4 x0 x1 e6 (fun x2_7 x3_8 he => ?_) _ (-1 : Int32) (0 : Int32) he6 H locs ls hR hS (lv_sub hl [2, 3, 1, 0] rfl)
  subst he
  intro H locs ls hR hS hl
  have hf := mm_u2e hf
  refine lv_aload_n hx hb dX3_nearestShadeOrNone_35 rfl (lv_at hl 0 rfl) ?_
  obtain ⟨v9, ev9, hf⟩ := mm_bd hf
  refine mm_getR C hR fs_X3_11 ev9 dX3_nearestShadeOrNone_36 ?_
  refine lv_astore_n (lv' := [(3, .ref v9), (0, .ref x0), (1, .int x1), (2, .int x2_7)]) hx hb dX3_nearestShadeOrNone_39 rfl hl (by decide) rfl (fun ls hl => ?_)
  refine lv_aload_n hx hb dX3_nearestShadeOrNone_40 rfl (lv_at hl 0 rfl) ?_
  obtain ⟨v10, ev10, hf⟩ := mm_bd hf
  refine mm_alen C hR ev10 dX3_nearestShadeOrNone_41 ?_
  refine lv_istore (lv' := [(4, .int v10), (3, .ref v9), (0, .ref x0), (1, .int x1), (2, .int x2_7)]) hx hb dX3_nearestShadeOrNone_42 hl (by decide) rfl (fun ls hl => ?_)
  refine lv_iconst (v := 0) hx hb dX3_nearestShadeOrNone_44 (by decide) ?_
  refine lv_istore (lv' := [(5, .int (0 : Int32)), (4, .int v10), (3, .ref v9), (0, .ref x0), (1, .int x1), (2, .int x2_7)]) hx hb dX3_nearestShadeOrNone_45 hl (by decide) rfl (fun ls hl => ?_)
  obtain ⟨e18, he18, hf⟩ := mm_bd hf
  refine L47 x0 x1 v9 v10 e18 (fun x2_19 x5_20 he => ?_) _ x2_7 (0 : Int32) he18 H locs ls hR hS (lv_sub hl [3, 4, 5, 2, 1, 0] rfl)
  subst he
  intro H locs ls hR hS hl
  have hf := mm_u2e hf
  refine lv_iload_n hx hb dX3_nearestShadeOrNone_93 rfl (lv_at hl 0 rfl) ?_
  exact mm_ire C hR hS hr ((Option.some.inj hf)) rfl dX3_nearestShadeOrNone_94
def ff_X3_atHandOf (M : mm_M) (x0 : Nat) (x1 : Int32) : Option Int32 := Option.bind (ff_X6_isShade M x1) fun v1 => if v1 = (0 : Int32) then (some (0 : Int32)) else (Option.bind (mm_gR 3 M x0 1) fun v2 => Option.bind (mm_aI 0 M v2 x1) fun v3 => some v3)
def rm_X3_atHandOf : Room := { frames := 1, cells := 0, slots := 0, locals := 20 }
set_option maxHeartbeats 4000000 in
set_option maxRecDepth 100000 in
theorem jj_X3_atHandOf (l : Launch) (g : mm_G) (A : Nat → Prop) (M : mm_M) (x0 : Nat) (x1 : Int32) (r : Int32) (hf : ff_X3_atHandOf M x0 x1 = some r) : Met l yX3_atHandOf (mm_ws yX3_atHandOf cX3_atHandOf 2 (Option.some Jvm.ClassFile.FieldType.int)) rm_X3_atHandOf (va_Pc [.ref x0, .int x1] (mm_B g A M)) (mm_Ti g A r M) 0 0 A := by
  refine mm_met (g := g) (lv := [(0, .ref x0), (1, .int x1)]) (fun U h => h.2) (by decide +kernel) (Nat.le_of_ble_eq_true rfl) rfl ?_
  intro p e s m args below meth c ls C hr hnm hB hl
  obtain ⟨hR, hK⟩ := hB
  have hx := C.1
  have hb := C.2.1
  suffices hmain : ∀ (H : Heap) (locs : List Loc), mm_R g A M H → va_S A s.heap H locs → W p l e rm_X3_atHandOf s m args below meth c H locs 0 0 (MQ below (mm_Ti g A r M) args s 0 0 A) (F0 m 0 ls []) from hmain _ _ hR va_S.rf
  clear hR
  intro H locs hR hS
  unfold ff_X3_atHandOf at hf
  refine lv_iload_n hx hb dX3_atHandOf_0 rfl (lv_at hl 1 rfl) ?_
  obtain ⟨v1, ev1, hf⟩ := mm_bd hf
  refine mm_callSNi (As := [.int x1]) (rest := []) C hR hS hl.1 C.2.2.2.2.2.1.2.2.2.1 sn_X3_65 (jj_X6_isShade l g A M x1 v1 ev1) ⟨rfl, rfl, (Nat.le_of_ble_eq_true rfl), (Nat.le_of_ble_eq_true rfl)⟩ rfl (Nat.le_of_ble_eq_true rfl) ⟨Nat.zero_le _, Nat.zero_le _⟩ rfl dX3_atHandOf_1 (fun H locs hR hS => ?_)
  refine lv_if_eq (tgt := 16) hx hb dX3_atHandOf_4 (by decide) (fun hc => ?_) (fun hc => ?_)
  · have hf := mm_if1 hc hf
    refine lv_iconst (v := 0) hx hb dX3_atHandOf_16 (by decide) ?_
    exact mm_ire C hR hS hr ((Option.some.inj hf)) rfl dX3_atHandOf_17
  · have hf := mm_if0 hc hf
    refine lv_aload_n hx hb dX3_atHandOf_7 rfl (lv_at hl 0 rfl) ?_
    obtain ⟨v2, ev2, hf⟩ := mm_bd hf
    refine mm_getR C hR fs_X3_17 ev2 dX3_atHandOf_8 ?_
    refine lv_iload_n hx hb dX3_atHandOf_11 rfl (lv_at hl 1 rfl) ?_
    obtain ⟨v3, ev3, hf⟩ := mm_bd hf
    refine mm_iald C hR ev3 dX3_atHandOf_12 ?_
    refine lv_goto (tgt := 17) hx hb dX3_atHandOf_13 (by decide) ?_
    exact mm_ire C hR hS hr ((Option.some.inj hf)) rfl dX3_atHandOf_17
def ff_X3_firstStripGivingOrNull_j51 (M : mm_M) (x0 : Nat) (x1 : Int32) (x2 : Nat) (x3 : Int32) (x4 : Int32) : Option (Int32 ⊕ (Int32 ⊕ (Option Nat))) := some (.inl (x4 + (1 : Int32)))
def ff_X3_firstStripGivingOrNull_l11  (M : mm_M) (x0 : Nat) (x1 : Int32) (x2 : Nat) (x3 : Int32) (x4 : Int32) : Option (Int32 ⊕ (Int32 ⊕ (Option Nat))) := if x3 ≤ x4 then (some (.inr (.inl x4))) else (Option.bind (mm_aR 2 M x2 x4) fun v3 => Option.bind (mm_gI 4 M v3 3) fun v4 => if v4 = x1 then (Option.bind (mm_gI 3 M x0 3) fun v5 => Option.bind (mm_gI 3 M x0 4) fun v6 => Option.bind (mm_ck 4 M v3) fun u7 => Option.bind (ff_X4_givesGood M v3 v5 v6) fun v8 => if v8 = (0 : Int32) then (ff_X3_firstStripGivingOrNull_j51 M x0 x1 x2 x3 x4) else (some (.inr (.inr (some v3))))) else (ff_X3_firstStripGivingOrNull_j51 M x0 x1 x2 x3 x4))
def ff_X3_firstStripGivingOrNull (M : mm_M) (x0 : Nat) (x1 : Int32) : Option (Option Nat) := Option.bind (mm_gR 3 M x0 0) fun v1 => Option.bind (mm_ln M v1) fun v2 => Option.bind (mm_it (mm_u1 (ff_X3_firstStripGivingOrNull_l11 M x0 x1 v1 v2)) mm_fu (0 : Int32)) fun e9 => Sum.elim (mm_u1 (fun x4_10 => some none)) some e9
def rm_X3_firstStripGivingOrNull : Room := { frames := 2, cells := 0, slots := 0, locals := 49 }
set_option maxHeartbeats 4000000 in
set_option maxRecDepth 100000 in
theorem jj_X3_firstStripGivingOrNull (l : Launch) (g : mm_G) (A : Nat → Prop) (M : mm_M) (x0 : Nat) (x1 : Int32) (r : Option Nat) (hf : ff_X3_firstStripGivingOrNull M x0 x1 = some r) : Met l yX3_firstStripGivingOrNull (mm_ws yX3_firstStripGivingOrNull cX3_firstStripGivingOrNull 6 (Option.some (Jvm.ClassFile.FieldType.object "MosaicFloor$Strip"))) rm_X3_firstStripGivingOrNull (va_Pc [.ref x0, .int x1] (mm_B g A M)) (mm_Tr g A r M) 0 0 A := by
  refine mm_met (g := g) (lv := [(0, .ref x0), (1, .int x1)]) (fun U h => h.2) (by decide +kernel) (Nat.le_of_ble_eq_true rfl) rfl ?_
  intro p e s m args below meth c ls C hr hnm hB hl
  obtain ⟨hR, hK⟩ := hB
  have hx := C.1
  have hb := C.2.1
  suffices hmain : ∀ (H : Heap) (locs : List Loc), mm_R g A M H → va_S A s.heap H locs → W p l e rm_X3_firstStripGivingOrNull s m args below meth c H locs 0 0 (MQ below (mm_Tr g A r M) args s 0 0 A) (F0 m 0 ls []) from hmain _ _ hR va_S.rf
  clear hR
  intro H locs hR hS
  have L11 : ∀ (x0 : Nat) (x1 : Int32) (x2 : Nat) (x3 : Int32) (e1 : Int32 ⊕ (Option Nat)) (hX : ∀ (x4 : Int32), e1 = .inl x4 → ∀ (H : Heap) (locs : List Loc) (ls : Array Slot), mm_R g A M H → va_S A s.heap H locs → lv_has ls 6 [] → W p l e rm_X3_firstStripGivingOrNull s m args below meth c H locs 0 0 (MQ below (mm_Tr g A r M) args s 0 0 A) (F0 m 57 ls [])) (hY : ∀ (v : Option Nat), e1 = .inr v → v = r) (n : Nat) (x4 : Int32), mm_it (mm_u1 (ff_X3_firstStripGivingOrNull_l11 M x0 x1 x2 x3)) n x4 = some e1 → ∀ (H : Heap) (locs : List Loc) (ls : Array Slot), mm_R g A M H → va_S A s.heap H locs → lv_has ls 6 [(0, .ref x0), (1, .int x1), (2, .ref x2), (3, .int x3), (4, .int x4)] → W p l e rm_X3_firstStripGivingOrNull s m args below meth c H locs 0 0 (MQ below (mm_Tr g A r M) args s 0 0 A) (F0 m 11 ls []) := by
    intro x0 x1 x2 x3 e1 hX hY n x4 hit
    refine mm_itW (Hd := fun st => ∀ (H : Heap) (locs : List Loc) (ls : Array Slot), mm_R g A M H → va_S A s.heap H locs → lv_has ls 6 [(0, .ref x0), (1, .int x1), (2, .ref x2), (3, .int x3), (4, .int st)] → W p l e rm_X3_firstStripGivingOrNull s m args below meth c H locs 0 0 (MQ below (mm_Tr g A r M) args s 0 0 A) (F0 m 11 ls [])) (fun st y hf hin hout => ?_) n x4 hit
    revert hf; generalize st = x4; intro hf
    have hf := mm_u1e hf
    have J51 : ∀ (x4 : Int32) (H : Heap) (locs : List Loc) (ls : Array Slot), mm_R g A M H → va_S A s.heap H locs → lv_has ls 6 [(0, .ref x0), (1, .int x1), (2, .ref x2), (3, .int x3), (4, .int x4)] → ff_X3_firstStripGivingOrNull_j51 M x0 x1 x2 x3 x4 = some y → W p l e rm_X3_firstStripGivingOrNull s m args below meth c H locs 0 0 (MQ below (mm_Tr g A r M) args s 0 0 A) (F0 m 51 ls []) := by
      intro x4 H locs ls hR hS hl hf
      unfold ff_X3_firstStripGivingOrNull_j51 at hf
      refine lv_iinc (v := (x4 + (1 : Int32))) (lv' := [(4, .int (x4 + (1 : Int32))), (0, .ref x0), (1, .int x1), (2, .ref x2), (3, .int x3)]) hx hb dX3_firstStripGivingOrNull_51 hl (k := 4) rfl rfl (by decide) rfl (fun ls hl => ?_)
      refine lv_goto (tgt := 11) hx hb dX3_firstStripGivingOrNull_54 (by decide) ?_
      exact hin _ (Option.some.inj hf).symm H locs ls hR hS (lv_sub hl [1, 2, 3, 4, 0] rfl)
    intro H locs ls hR hS hl
    unfold ff_X3_firstStripGivingOrNull_l11 at hf
    refine lv_iload hx hb dX3_firstStripGivingOrNull_11 (lv_at hl 4 rfl) ?_
    refine lv_iload_n hx hb dX3_firstStripGivingOrNull_13 rfl (lv_at hl 3 rfl) ?_
    refine lv_icmp_ge (tgt := 57) hx hb dX3_firstStripGivingOrNull_14 (by decide) (fun hc => ?_) (fun hc => ?_)
    · have hf := mm_if1 hc hf
      exact hX _ (hout _ (Option.some.inj hf).symm).symm H locs ls hR hS (lv_sub hl [] rfl)
    · have hf := mm_if0 hc hf
      refine lv_aload_n hx hb dX3_firstStripGivingOrNull_17 rfl (lv_at hl 2 rfl) ?_
      refine lv_iload hx hb dX3_firstStripGivingOrNull_18 (lv_at hl 4 rfl) ?_
      obtain ⟨v3, ev3, hf⟩ := mm_bd hf
      refine mm_aald C hR (fun _ => rfl) ev3 dX3_firstStripGivingOrNull_20 ?_
      refine lv_astore (lv' := [(5, .ref v3), (0, .ref x0), (1, .int x1), (2, .ref x2), (3, .int x3), (4, .int x4)]) hx hb dX3_firstStripGivingOrNull_21 hl (by decide) rfl (fun ls hl => ?_)
      refine lv_aload hx hb dX3_firstStripGivingOrNull_23 (lv_at hl 0 rfl) ?_
      obtain ⟨v4, ev4, hf⟩ := mm_bd hf
      refine mm_getI C hR fs_X3_82 ev4 dX3_firstStripGivingOrNull_25 ?_
      refine lv_iload_n hx hb dX3_firstStripGivingOrNull_28 rfl (lv_at hl 2 rfl) ?_
      refine lv_icmp_ne (tgt := 51) hx hb dX3_firstStripGivingOrNull_29 (by decide) (fun hc => ?_) (fun hc => ?_)
      · have hf := mm_if0 hc hf
        exact J51 x4 H locs ls hR hS (lv_sub hl [1, 2, 3, 4, 5] rfl) hf
      · have hf := mm_if1 hc hf
        refine lv_aload hx hb dX3_firstStripGivingOrNull_32 (lv_at hl 0 rfl) ?_
        refine lv_aload_n hx hb dX3_firstStripGivingOrNull_34 rfl (lv_at hl 1 rfl) ?_
        obtain ⟨v5, ev5, hf⟩ := mm_bd hf
        refine mm_getI C hR fs_X3_21 ev5 dX3_firstStripGivingOrNull_35 ?_
        refine lv_aload_n hx hb dX3_firstStripGivingOrNull_38 rfl (lv_at hl 1 rfl) ?_
        obtain ⟨v6, ev6, hf⟩ := mm_bd hf
        refine mm_getI C hR fs_X3_25 ev6 dX3_firstStripGivingOrNull_39 ?_
        obtain ⟨u7, eu7, hf⟩ := mm_bd hf
        obtain ⟨v8, ev8, hf⟩ := mm_bd hf
        refine mm_callVi (As := [.int v5, .int v6]) (rest := []) C hR hS hl.1 vs_X3_93 eu7 (jj_X4_givesGood l g A M v3 v5 v6 v8 ev8) ⟨rfl, rfl, (Nat.le_of_ble_eq_true rfl), (Nat.le_of_ble_eq_true rfl)⟩ rfl (Nat.le_of_ble_eq_true rfl) ⟨Nat.zero_le _, Nat.zero_le _⟩ rfl dX3_firstStripGivingOrNull_42 (fun H locs hR hS => ?_)
        refine lv_if_eq (tgt := 51) hx hb dX3_firstStripGivingOrNull_45 (by decide) (fun hc => ?_) (fun hc => ?_)
        · have hf := mm_if1 hc hf
          exact J51 x4 H locs ls hR hS (lv_sub hl [1, 2, 3, 4, 5] rfl) hf
        · have hf := mm_if0 hc hf
          refine lv_aload hx hb dX3_firstStripGivingOrNull_48 (lv_at hl 0 rfl) ?_
          exact mm_are (v := (some v3)) C hR hS hr ((hY _ (hout _ (Option.some.inj hf).symm).symm)) rfl dX3_firstStripGivingOrNull_50
  unfold ff_X3_firstStripGivingOrNull at hf
  refine lv_aload_n hx hb dX3_firstStripGivingOrNull_0 rfl (lv_at hl 0 rfl) ?_
  obtain ⟨v1, ev1, hf⟩ := mm_bd hf
  refine mm_getR C hR fs_X3_11 ev1 dX3_firstStripGivingOrNull_1 ?_
  refine lv_astore_n (lv' := [(2, .ref v1), (0, .ref x0), (1, .int x1)]) hx hb dX3_firstStripGivingOrNull_4 rfl hl (by decide) rfl (fun ls hl => ?_)
  refine lv_aload_n hx hb dX3_firstStripGivingOrNull_5 rfl (lv_at hl 0 rfl) ?_
  obtain ⟨v2, ev2, hf⟩ := mm_bd hf
  refine mm_alen C hR ev2 dX3_firstStripGivingOrNull_6 ?_
  refine lv_istore_n (lv' := [(3, .int v2), (2, .ref v1), (0, .ref x0), (1, .int x1)]) hx hb dX3_firstStripGivingOrNull_7 rfl hl (by decide) rfl (fun ls hl => ?_)
  refine lv_iconst (v := 0) hx hb dX3_firstStripGivingOrNull_8 (by decide) ?_
  refine lv_istore (lv' := [(4, .int (0 : Int32)), (3, .int v2), (2, .ref v1), (0, .ref x0), (1, .int x1)]) hx hb dX3_firstStripGivingOrNull_9 hl (by decide) rfl (fun ls hl => ?_)
  obtain ⟨e9, he9, hf⟩ := mm_bd hf
  refine L11 x0 x1 v1 v2 e9 (fun x4_10 he => ?_) (fun v he => by subst he; exact Option.some.inj (mm_sr hf)) _ (0 : Int32) he9 H locs ls hR hS (lv_sub hl [3, 4, 2, 1, 0] rfl)
  subst he
  intro H locs ls hR hS hl
  have hf := mm_sl hf
  have hf := mm_u1e hf
  refine lv_null hx hb dX3_firstStripGivingOrNull_57 ?_
  exact mm_are (v := none) C hR hS hr ((Option.some.inj hf)) rfl dX3_firstStripGivingOrNull_58
def ff_X3_bringToHand_l36  (x0 : Nat) (x1 : Int32) (x2 : Nat) (x3 : Int32) (x4 : Int32) (M : mm_M) : Option ((Int32 × mm_M) ⊕ (Int32 × mm_M)) := if x3 ≤ x4 then (some (.inr (x4, M))) else (Option.bind (mm_ck 3 M x0) fun u10 => Option.bind (ff_X3_atHandOf M x0 x1) fun v11 => if v11 = (0 : Int32) then (Option.bind (mm_ck 3 M x0) fun u12 => Option.bind (ff_X3_cutFrom M x0 x2) (mm_u2 fun v13 M14 => some (.inl ((x4 + (1 : Int32)), M14)))) else (some (.inr (x4, M))))
def ff_X3_bringToHand (M : mm_M) (x0 : Nat) (x1 : Int32) : Option mm_M := Option.bind (mm_ck 3 M x0) fun u1 => Option.bind (ff_X3_atHandOf M x0 x1) fun v2 => if v2 ≤ (0 : Int32) then (Option.bind (mm_ck 3 M x0) fun u3 => Option.bind (ff_X3_firstStripGivingOrNull M x0 x1) fun o4 => mm_oc o4 (some M) (fun q5 => Option.bind (mm_gI 3 M x0 3) fun v6 => Option.bind (mm_gI 3 M x0 4) fun v7 => Option.bind (mm_ck 4 M q5) fun u8 => Option.bind (ff_X4_tesseraeAhead M q5 v6 v7) fun v9 => Option.bind (mm_it (mm_u2 (ff_X3_bringToHand_l36 x0 x1 q5 v9)) mm_fu ((0 : Int32), M)) fun e15 => mm_u2 (fun x4_16 M17 => some M17) e15)) else (some M)
def rm_X3_bringToHand : Room := { frames := 3, cells := 0, slots := 0, locals := 74 }
set_option maxHeartbeats 4000000 in
set_option maxRecDepth 100000 in
theorem jj_X3_bringToHand (l : Launch) (g : mm_G) (A : Nat → Prop) (M : mm_M) (x0 : Nat) (x1 : Int32) (M2 : mm_M) (hf : ff_X3_bringToHand M x0 x1 = some M2) : Met l yX3_bringToHand (mm_ws yX3_bringToHand cX3_bringToHand 5 (Option.none : Option Jvm.ClassFile.FieldType)) rm_X3_bringToHand (va_Pc [.ref x0, .int x1] (mm_B g A M)) (mm_Tv g A M2) 0 0 A := by
  refine mm_met (g := g) (lv := [(0, .ref x0), (1, .int x1)]) (fun U h => h.2) (by decide +kernel) (Nat.le_of_ble_eq_true rfl) rfl ?_
  intro p e s m args below meth c ls C hr hnm hB hl
  obtain ⟨hR, hK⟩ := hB
  have hx := C.1
  have hb := C.2.1
  suffices hmain : ∀ (H : Heap) (locs : List Loc), mm_R g A M H → va_S A s.heap H locs → W p l e rm_X3_bringToHand s m args below meth c H locs 0 0 (MQ below (mm_Tv g A M2) args s 0 0 A) (F0 m 0 ls []) from hmain _ _ hR va_S.rf
  clear hR
  intro H locs hR hS
  have L36 : ∀ (x0 : Nat) (x1 : Int32) (x2 : Nat) (x3 : Int32) (e1 : Int32 × mm_M) (hX : ∀ (x4 : Int32) (M : mm_M), e1 = (x4, M) → ∀ (H : Heap) (locs : List Loc) (ls : Array Slot), mm_R g A M H → va_S A s.heap H locs → lv_has ls 5 [] → W p l e rm_X3_bringToHand s m args below meth c H locs 0 0 (MQ below (mm_Tv g A M2) args s 0 0 A) (F0 m 62 ls [])) (n : Nat) (x4 : Int32) (M : mm_M), mm_it (mm_u2 (ff_X3_bringToHand_l36 x0 x1 x2 x3)) n (x4, M) = some e1 → ∀ (H : Heap) (locs : List Loc) (ls : Array Slot), mm_R g A M H → va_S A s.heap H locs → lv_has ls 5 [(0, .ref x0), (1, .int x1), (2, .ref x2), (3, .int x3), (4, .int x4)] → W p l e rm_X3_bringToHand s m args below meth c H locs 0 0 (MQ below (mm_Tv g A M2) args s 0 0 A) (F0 m 36 ls []) := by
    intro x0 x1 x2 x3 e1 hX n x4 M hit
    refine mm_itW (Hd := fun st => ∀ (H : Heap) (locs : List Loc) (ls : Array Slot), mm_R g A st.2 H → va_S A s.heap H locs → lv_has ls 5 [(0, .ref x0), (1, .int x1), (2, .ref x2), (3, .int x3), (4, .int st.1)] → W p l e rm_X3_bringToHand s m args below meth c H locs 0 0 (MQ below (mm_Tv g A M2) args s 0 0 A) (F0 m 36 ls [])) (fun st y hf hin hout => ?_) n (x4, M) hit
    obtain ⟨x4, M⟩ := st
    have hf := mm_u2e hf
    intro H locs ls hR hS hl
    unfold ff_X3_bringToHand_l36 at hf
    refine lv_iload hx hb dX3_bringToHand_36 (lv_at hl 4 rfl) ?_
    refine lv_iload_n hx hb dX3_bringToHand_38 rfl (lv_at hl 3 rfl) ?_
    refine lv_icmp_ge (tgt := 62) hx hb dX3_bringToHand_39 (by decide) (fun hc => ?_) (fun hc => ?_)
    · have hf := mm_if1 hc hf
      exact hX _ _ (hout _ (Option.some.inj hf).symm).symm H locs ls hR hS (lv_sub hl [] rfl)
    · have hf := mm_if0 hc hf
      refine lv_aload_n hx hb dX3_bringToHand_42 rfl (lv_at hl 0 rfl) ?_
      refine lv_iload_n hx hb dX3_bringToHand_43 rfl (lv_at hl 1 rfl) ?_
      obtain ⟨u10, eu10, hf⟩ := mm_bd hf
      obtain ⟨v11, ev11, hf⟩ := mm_bd hf
      refine mm_callVi (As := [.int x1]) (rest := []) C hR hS hl.1 vs_X3_69 eu10 (jj_X3_atHandOf l g A M x0 x1 v11 ev11) ⟨rfl, rfl, (Nat.le_of_ble_eq_true rfl), (Nat.le_of_ble_eq_true rfl)⟩ rfl (Nat.le_of_ble_eq_true rfl) ⟨Nat.zero_le _, Nat.zero_le _⟩ rfl dX3_bringToHand_44 (fun H locs hR hS => ?_)
      refine lv_if_ne (tgt := 62) hx hb dX3_bringToHand_47 (by decide) (fun hc => ?_) (fun hc => ?_)
      · have hf := mm_if0 hc hf
        exact hX _ _ (hout _ (Option.some.inj hf).symm).symm H locs ls hR hS (lv_sub hl [] rfl)
      · have hf := mm_if1 hc hf
        refine lv_aload_n hx hb dX3_bringToHand_50 rfl (lv_at hl 0 rfl) ?_
        refine lv_aload_n hx hb dX3_bringToHand_51 rfl (lv_at hl 2 rfl) ?_
        obtain ⟨u12, eu12, hf⟩ := mm_bd hf
        obtain ⟨⟨v13, M14⟩, ev13, hf⟩ := mm_bd hf
        have hf := mm_u2e hf
        refine mm_callVi (As := [.ref x2]) (rest := []) C hR hS hl.1 vs_X3_112 eu12 (jj_X3_cutFrom l g A M x0 x2 v13 M14 ev13) ⟨rfl, rfl, (Nat.le_of_ble_eq_true rfl), (Nat.le_of_ble_eq_true rfl)⟩ rfl (Nat.le_of_ble_eq_true rfl) ⟨Nat.zero_le _, Nat.zero_le _⟩ rfl dX3_bringToHand_52 (fun H locs hR hS => ?_)
        refine lv_pop hx hb dX3_bringToHand_55 rfl ?_
        refine lv_iinc (v := (x4 + (1 : Int32))) (lv' := [(4, .int (x4 + (1 : Int32))), (0, .ref x0), (1, .int x1), (2, .ref x2), (3, .int x3)]) hx hb dX3_bringToHand_56 hl (k := 4) rfl rfl (by decide) rfl (fun ls hl => ?_)
        refine lv_goto (tgt := 36) hx hb dX3_bringToHand_59 (by decide) ?_
        exact hin _ (Option.some.inj hf).symm H locs ls hR hS (lv_sub hl [1, 2, 3, 4, 0] rfl)
  unfold ff_X3_bringToHand at hf
  refine lv_aload_n hx hb dX3_bringToHand_0 rfl (lv_at hl 0 rfl) ?_
  refine lv_iload_n hx hb dX3_bringToHand_1 rfl (lv_at hl 1 rfl) ?_
  obtain ⟨u1, eu1, hf⟩ := mm_bd hf
  obtain ⟨v2, ev2, hf⟩ := mm_bd hf
  refine mm_callVi (As := [.int x1]) (rest := []) C hR hS hl.1 vs_X3_69 eu1 (jj_X3_atHandOf l g A M x0 x1 v2 ev2) ⟨rfl, rfl, (Nat.le_of_ble_eq_true rfl), (Nat.le_of_ble_eq_true rfl)⟩ rfl (Nat.le_of_ble_eq_true rfl) ⟨Nat.zero_le _, Nat.zero_le _⟩ rfl dX3_bringToHand_2 (fun H locs hR hS => ?_)
  refine lv_if_le (tgt := 9) hx hb dX3_bringToHand_5 (by decide) (fun hc => ?_) (fun hc => ?_)
  · have hf := mm_if1 hc hf
    refine lv_aload_n hx hb dX3_bringToHand_9 rfl (lv_at hl 0 rfl) ?_
    refine lv_iload_n hx hb dX3_bringToHand_10 rfl (lv_at hl 1 rfl) ?_
    obtain ⟨u3, eu3, hf⟩ := mm_bd hf
    obtain ⟨o4, eo4, hf⟩ := mm_bd hf
    refine mm_callVr (As := [.int x1]) (rest := []) C hR hS hl.1 vs_X3_105 eu3 (jj_X3_firstStripGivingOrNull l g A M x0 x1 o4 eo4) ⟨rfl, rfl, (Nat.le_of_ble_eq_true rfl), (Nat.le_of_ble_eq_true rfl)⟩ rfl (Nat.le_of_ble_eq_true rfl) ⟨Nat.zero_le _, Nat.zero_le _⟩ rfl dX3_bringToHand_11 (fun H locs hR hS => ?_)
    cases o4 with
    | none =>
      have hf := mm_ocn hf
      refine lv_astore_nN (lv' := [(2, .null), (0, .ref x0), (1, .int x1)]) hx hb dX3_bringToHand_14 rfl hl (by decide) rfl (fun ls hl => ?_)
      refine lv_aload_nN hx hb dX3_bringToHand_15 rfl (lv_at hl 0 rfl) ?_
      refine lv_ifnonnullN hx hb dX3_bringToHand_16 ?_
      exact mm_vre C hR hS hr (Option.some.inj hf) dX3_bringToHand_19
    | some q5 =>
      have hf := mm_ocs hf
      refine lv_astore_n (lv' := [(2, .ref q5), (0, .ref x0), (1, .int x1)]) hx hb dX3_bringToHand_14 rfl hl (by decide) rfl (fun ls hl => ?_)
      refine lv_aload_n hx hb dX3_bringToHand_15 rfl (lv_at hl 0 rfl) ?_
      refine lv_ifnonnull (tgt := 20) hx hb dX3_bringToHand_16 (by decide) ?_
      refine lv_aload_n hx hb dX3_bringToHand_20 rfl (lv_at hl 0 rfl) ?_
      refine lv_aload_n hx hb dX3_bringToHand_21 rfl (lv_at hl 1 rfl) ?_
      obtain ⟨v6, ev6, hf⟩ := mm_bd hf
      refine mm_getI C hR fs_X3_21 ev6 dX3_bringToHand_22 ?_
      refine lv_aload_n hx hb dX3_bringToHand_25 rfl (lv_at hl 1 rfl) ?_
      obtain ⟨v7, ev7, hf⟩ := mm_bd hf
      refine mm_getI C hR fs_X3_25 ev7 dX3_bringToHand_26 ?_
      obtain ⟨u8, eu8, hf⟩ := mm_bd hf
      obtain ⟨v9, ev9, hf⟩ := mm_bd hf
      refine mm_callVi (As := [.int v6, .int v7]) (rest := []) C hR hS hl.1 vs_X3_109 eu8 (jj_X4_tesseraeAhead l g A M q5 v6 v7 v9 ev9) ⟨rfl, rfl, (Nat.le_of_ble_eq_true rfl), (Nat.le_of_ble_eq_true rfl)⟩ rfl (Nat.le_of_ble_eq_true rfl) ⟨Nat.zero_le _, Nat.zero_le _⟩ rfl dX3_bringToHand_29 (fun H locs hR hS => ?_)
      refine lv_istore_n (lv' := [(3, .int v9), (2, .ref q5), (0, .ref x0), (1, .int x1)]) hx hb dX3_bringToHand_32 rfl hl (by decide) rfl (fun ls hl => ?_)
      refine lv_iconst (v := 0) hx hb dX3_bringToHand_33 (by decide) ?_
      refine lv_istore (lv' := [(4, .int (0 : Int32)), (3, .int v9), (2, .ref q5), (0, .ref x0), (1, .int x1)]) hx hb dX3_bringToHand_34 hl (by decide) rfl (fun ls hl => ?_)
      obtain ⟨e15, he15, hf⟩ := mm_bd hf
      refine L36 x0 x1 q5 v9 e15 (fun x4_16 M17 he => ?_) _ (0 : Int32) M he15 H locs ls hR hS (lv_sub hl [3, 4, 2, 1, 0] rfl)
      subst he
      intro H locs ls hR hS hl
      have hf := mm_u2e hf
      exact mm_vre C hR hS hr (Option.some.inj hf) dX3_bringToHand_62
  · have hf := mm_if0 hc hf
    exact mm_vre C hR hS hr (Option.some.inj hf) dX3_bringToHand_8
def ff_X3_takeFromHand (M : mm_M) (x0 : Nat) (x1 : Int32) : Option mm_M := Option.bind (mm_ck 3 M x0) fun u1 => Option.bind (ff_X3_atHandOf M x0 x1) fun v2 => if v2 ≤ (0 : Int32) then (some M) else (Option.bind (mm_gR 3 M x0 1) fun v3 => Option.bind (mm_aI 0 M v3 x1) fun v4 => Option.bind (mm_sI 0 M v3 x1 (v4 - (1 : Int32))) fun M5 => some M5)
def rm_X3_takeFromHand : Room := { frames := 2, cells := 0, slots := 0, locals := 41 }
set_option maxHeartbeats 4000000 in
set_option maxRecDepth 100000 in
theorem jj_X3_takeFromHand (l : Launch) (g : mm_G) (A : Nat → Prop) (M : mm_M) (x0 : Nat) (x1 : Int32) (M2 : mm_M) (hf : ff_X3_takeFromHand M x0 x1 = some M2) : Met l yX3_takeFromHand (mm_ws yX3_takeFromHand cX3_takeFromHand 2 (Option.none : Option Jvm.ClassFile.FieldType)) rm_X3_takeFromHand (va_Pc [.ref x0, .int x1] (mm_B g A M)) (mm_Tv g A M2) 0 0 A := by
  refine mm_met (g := g) (lv := [(0, .ref x0), (1, .int x1)]) (fun U h => h.2) (by decide +kernel) (Nat.le_of_ble_eq_true rfl) rfl ?_
  intro p e s m args below meth c ls C hr hnm hB hl
  obtain ⟨hR, hK⟩ := hB
  have hx := C.1
  have hb := C.2.1
  suffices hmain : ∀ (H : Heap) (locs : List Loc), mm_R g A M H → va_S A s.heap H locs → W p l e rm_X3_takeFromHand s m args below meth c H locs 0 0 (MQ below (mm_Tv g A M2) args s 0 0 A) (F0 m 0 ls []) from hmain _ _ hR va_S.rf
  clear hR
  intro H locs hR hS
  unfold ff_X3_takeFromHand at hf
  refine lv_aload_n hx hb dX3_takeFromHand_0 rfl (lv_at hl 0 rfl) ?_
  refine lv_iload_n hx hb dX3_takeFromHand_1 rfl (lv_at hl 1 rfl) ?_
  obtain ⟨u1, eu1, hf⟩ := mm_bd hf
  obtain ⟨v2, ev2, hf⟩ := mm_bd hf
  refine mm_callVi (As := [.int x1]) (rest := []) C hR hS hl.1 vs_X3_69 eu1 (jj_X3_atHandOf l g A M x0 x1 v2 ev2) ⟨rfl, rfl, (Nat.le_of_ble_eq_true rfl), (Nat.le_of_ble_eq_true rfl)⟩ rfl (Nat.le_of_ble_eq_true rfl) ⟨Nat.zero_le _, Nat.zero_le _⟩ rfl dX3_takeFromHand_2 (fun H locs hR hS => ?_)
  refine lv_if_le (tgt := 18) hx hb dX3_takeFromHand_5 (by decide) (fun hc => ?_) (fun hc => ?_)
  · have hf := mm_if1 hc hf
    exact mm_vre C hR hS hr (Option.some.inj hf) dX3_takeFromHand_18
  · have hf := mm_if0 hc hf
    refine lv_aload_n hx hb dX3_takeFromHand_8 rfl (lv_at hl 0 rfl) ?_
    obtain ⟨v3, ev3, hf⟩ := mm_bd hf
    refine mm_getR C hR fs_X3_17 ev3 dX3_takeFromHand_9 ?_
    refine lv_iload_n hx hb dX3_takeFromHand_12 rfl (lv_at hl 1 rfl) ?_
    refine lv_dup2_11 hx hb dX3_takeFromHand_13 rfl rfl ?_
    obtain ⟨v4, ev4, hf⟩ := mm_bd hf
    refine mm_iald C hR ev4 dX3_takeFromHand_14 ?_
    refine lv_iconst (v := 1) hx hb dX3_takeFromHand_15 (by decide) ?_
    refine lv_isub hx hb dX3_takeFromHand_16 ?_
    obtain ⟨M5, eM5, hf⟩ := mm_bd hf
    refine mm_iast C hR hS eM5 dX3_takeFromHand_17 (fun H locs hR hS => ?_)
    exact mm_vre C hR hS hr (Option.some.inj hf) dX3_takeFromHand_18
def ff_X3_readyOf_j56 (M : mm_M) (x0 : Nat) (x1 : Int32) (x2 : Int32) (x3 : Nat) (x4 : Int32) (x5 : Int32) : Option ((Int32 × Int32) ⊕ (Int32 × Int32)) := some (.inl (x2, (x5 + (1 : Int32))))
def ff_X3_readyOf_l18  (M : mm_M) (x0 : Nat) (x1 : Int32) (x3 : Nat) (x4 : Int32) (x2 : Int32) (x5 : Int32) : Option ((Int32 × Int32) ⊕ (Int32 × Int32)) := if x4 ≤ x5 then (some (.inr (x2, x5))) else (Option.bind (mm_aR 2 M x3 x5) fun v5 => Option.bind (mm_gI 4 M v5 3) fun v6 => if v6 = x1 then (Option.bind (mm_gI 3 M x0 3) fun v7 => Option.bind (mm_gI 3 M x0 4) fun v8 => Option.bind (mm_ck 4 M v5) fun u9 => Option.bind (ff_X4_goodTesseraeAhead M v5 v7 v8) fun v10 => ff_X3_readyOf_j56 M x0 x1 (x2 + v10) x3 x4 x5) else (ff_X3_readyOf_j56 M x0 x1 x2 x3 x4 x5))
def ff_X3_readyOf (M : mm_M) (x0 : Nat) (x1 : Int32) : Option Int32 := Option.bind (mm_ck 3 M x0) fun u1 => Option.bind (ff_X3_atHandOf M x0 x1) fun v2 => Option.bind (mm_gR 3 M x0 0) fun v3 => Option.bind (mm_ln M v3) fun v4 => Option.bind (mm_it (mm_u2 (ff_X3_readyOf_l18 M x0 x1 v3 v4)) mm_fu (v2, (0 : Int32))) fun e11 => mm_u2 (fun x2_12 x5_13 => some x2_12) e11
def rm_X3_readyOf : Room := { frames := 2, cells := 0, slots := 0, locals := 50 }
set_option maxHeartbeats 4000000 in
set_option maxRecDepth 100000 in
theorem jj_X3_readyOf (l : Launch) (g : mm_G) (A : Nat → Prop) (M : mm_M) (x0 : Nat) (x1 : Int32) (r : Int32) (hf : ff_X3_readyOf M x0 x1 = some r) : Met l yX3_readyOf (mm_ws yX3_readyOf cX3_readyOf 7 (Option.some Jvm.ClassFile.FieldType.int)) rm_X3_readyOf (va_Pc [.ref x0, .int x1] (mm_B g A M)) (mm_Ti g A r M) 0 0 A := by
  refine mm_met (g := g) (lv := [(0, .ref x0), (1, .int x1)]) (fun U h => h.2) (by decide +kernel) (Nat.le_of_ble_eq_true rfl) rfl ?_
  intro p e s m args below meth c ls C hr hnm hB hl
  obtain ⟨hR, hK⟩ := hB
  have hx := C.1
  have hb := C.2.1
  suffices hmain : ∀ (H : Heap) (locs : List Loc), mm_R g A M H → va_S A s.heap H locs → W p l e rm_X3_readyOf s m args below meth c H locs 0 0 (MQ below (mm_Ti g A r M) args s 0 0 A) (F0 m 0 ls []) from hmain _ _ hR va_S.rf
  clear hR
  intro H locs hR hS
  have L18 : ∀ (x0 : Nat) (x1 : Int32) (x3 : Nat) (x4 : Int32) (e1 : Int32 × Int32) (hX : ∀ (x2 : Int32) (x5 : Int32), e1 = (x2, x5) → ∀ (H : Heap) (locs : List Loc) (ls : Array Slot), mm_R g A M H → va_S A s.heap H locs → lv_has ls 7 [(2, .int x2)] → W p l e rm_X3_readyOf s m args below meth c H locs 0 0 (MQ below (mm_Ti g A r M) args s 0 0 A) (F0 m 62 ls [])) (n : Nat) (x2 : Int32) (x5 : Int32), mm_it (mm_u2 (ff_X3_readyOf_l18 M x0 x1 x3 x4)) n (x2, x5) = some e1 → ∀ (H : Heap) (locs : List Loc) (ls : Array Slot), mm_R g A M H → va_S A s.heap H locs → lv_has ls 7 [(0, .ref x0), (1, .int x1), (2, .int x2), (3, .ref x3), (4, .int x4), (5, .int x5)] → W p l e rm_X3_readyOf s m args below meth c H locs 0 0 (MQ below (mm_Ti g A r M) args s 0 0 A) (F0 m 18 ls []) := by
    intro x0 x1 x3 x4 e1 hX n x2 x5 hit
    refine mm_itW (Hd := fun st => ∀ (H : Heap) (locs : List Loc) (ls : Array Slot), mm_R g A M H → va_S A s.heap H locs → lv_has ls 7 [(0, .ref x0), (1, .int x1), (2, .int st.1), (3, .ref x3), (4, .int x4), (5, .int st.2)] → W p l e rm_X3_readyOf s m args below meth c H locs 0 0 (MQ below (mm_Ti g A r M) args s 0 0 A) (F0 m 18 ls [])) (fun st y hf hin hout => ?_) n (x2, x5) hit
    obtain ⟨x2, x5⟩ := st
    have hf := mm_u2e hf
    have J56 : ∀ (x2 : Int32) (x5 : Int32) (H : Heap) (locs : List Loc) (ls : Array Slot), mm_R g A M H → va_S A s.heap H locs → lv_has ls 7 [(0, .ref x0), (1, .int x1), (2, .int x2), (3, .ref x3), (4, .int x4), (5, .int x5)] → ff_X3_readyOf_j56 M x0 x1 x2 x3 x4 x5 = some y → W p l e rm_X3_readyOf s m args below meth c H locs 0 0 (MQ below (mm_Ti g A r M) args s 0 0 A) (F0 m 56 ls []) := by
      intro x2 x5 H locs ls hR hS hl hf
      unfold ff_X3_readyOf_j56 at hf
      refine lv_iinc (v := (x5 + (1 : Int32))) (lv' := [(5, .int (x5 + (1 : Int32))), (0, .ref x0), (1, .int x1), (2, .int x2), (3, .ref x3), (4, .int x4)]) hx hb dX3_readyOf_56 hl (k := 5) rfl rfl (by decide) rfl (fun ls hl => ?_)
      refine lv_goto (tgt := 18) hx hb dX3_readyOf_59 (by decide) ?_
      exact hin _ (Option.some.inj hf).symm H locs ls hR hS (lv_sub hl [1, 2, 3, 4, 5, 0] rfl)
    intro H locs ls hR hS hl
    unfold ff_X3_readyOf_l18 at hf
    refine lv_iload hx hb dX3_readyOf_18 (lv_at hl 5 rfl) ?_
    refine lv_iload hx hb dX3_readyOf_20 (lv_at hl 4 rfl) ?_
    refine lv_icmp_ge (tgt := 62) hx hb dX3_readyOf_22 (by decide) (fun hc => ?_) (fun hc => ?_)
    · have hf := mm_if1 hc hf
      exact hX _ _ (hout _ (Option.some.inj hf).symm).symm H locs ls hR hS (lv_sub hl [2] rfl)
    · have hf := mm_if0 hc hf
      refine lv_aload_n hx hb dX3_readyOf_25 rfl (lv_at hl 3 rfl) ?_
      refine lv_iload hx hb dX3_readyOf_26 (lv_at hl 5 rfl) ?_
      obtain ⟨v5, ev5, hf⟩ := mm_bd hf
      refine mm_aald C hR (fun _ => rfl) ev5 dX3_readyOf_28 ?_
      refine lv_astore (lv' := [(6, .ref v5), (0, .ref x0), (1, .int x1), (2, .int x2), (3, .ref x3), (4, .int x4), (5, .int x5)]) hx hb dX3_readyOf_29 hl (by decide) rfl (fun ls hl => ?_)
      refine lv_aload hx hb dX3_readyOf_31 (lv_at hl 0 rfl) ?_
      obtain ⟨v6, ev6, hf⟩ := mm_bd hf
      refine mm_getI C hR fs_X3_82 ev6 dX3_readyOf_33 ?_
      refine lv_iload_n hx hb dX3_readyOf_36 rfl (lv_at hl 2 rfl) ?_
      refine lv_icmp_ne (tgt := 56) hx hb dX3_readyOf_37 (by decide) (fun hc => ?_) (fun hc => ?_)
      · have hf := mm_if0 hc hf
        exact J56 x2 x5 H locs ls hR hS (lv_sub hl [1, 2, 3, 4, 5, 6] rfl) hf
      · have hf := mm_if1 hc hf
        refine lv_iload_n hx hb dX3_readyOf_40 rfl (lv_at hl 3 rfl) ?_
        refine lv_aload hx hb dX3_readyOf_41 (lv_at hl 0 rfl) ?_
        refine lv_aload_n hx hb dX3_readyOf_43 rfl (lv_at hl 1 rfl) ?_
        obtain ⟨v7, ev7, hf⟩ := mm_bd hf
        refine mm_getI C hR fs_X3_21 ev7 dX3_readyOf_44 ?_
        refine lv_aload_n hx hb dX3_readyOf_47 rfl (lv_at hl 1 rfl) ?_
        obtain ⟨v8, ev8, hf⟩ := mm_bd hf
        refine mm_getI C hR fs_X3_25 ev8 dX3_readyOf_48 ?_
        obtain ⟨u9, eu9, hf⟩ := mm_bd hf
        obtain ⟨v10, ev10, hf⟩ := mm_bd hf
        refine mm_callVi (As := [.int v7, .int v8]) (rest := [.int x2]) C hR hS hl.1 vs_X3_85 eu9 (jj_X4_goodTesseraeAhead l g A M v5 v7 v8 v10 ev10) ⟨rfl, rfl, (Nat.le_of_ble_eq_true rfl), (Nat.le_of_ble_eq_true rfl)⟩ rfl (Nat.le_of_ble_eq_true rfl) ⟨Nat.zero_le _, Nat.zero_le _⟩ rfl dX3_readyOf_51 (fun H locs hR hS => ?_)
        refine lv_iadd hx hb dX3_readyOf_54 ?_
        refine lv_istore_n (lv' := [(2, .int (x2 + v10)), (6, .ref v5), (0, .ref x0), (1, .int x1), (3, .ref x3), (4, .int x4), (5, .int x5)]) hx hb dX3_readyOf_55 rfl hl (by decide) rfl (fun ls hl => ?_)
        exact J56 (x2 + v10) x5 H locs ls hR hS (lv_sub hl [2, 3, 0, 4, 5, 6] rfl) hf
  unfold ff_X3_readyOf at hf
  refine lv_aload_n hx hb dX3_readyOf_0 rfl (lv_at hl 0 rfl) ?_
  refine lv_iload_n hx hb dX3_readyOf_1 rfl (lv_at hl 1 rfl) ?_
  obtain ⟨u1, eu1, hf⟩ := mm_bd hf
  obtain ⟨v2, ev2, hf⟩ := mm_bd hf
  refine mm_callVi (As := [.int x1]) (rest := []) C hR hS hl.1 vs_X3_69 eu1 (jj_X3_atHandOf l g A M x0 x1 v2 ev2) ⟨rfl, rfl, (Nat.le_of_ble_eq_true rfl), (Nat.le_of_ble_eq_true rfl)⟩ rfl (Nat.le_of_ble_eq_true rfl) ⟨Nat.zero_le _, Nat.zero_le _⟩ rfl dX3_readyOf_2 (fun H locs hR hS => ?_)
  refine lv_istore_n (lv' := [(2, .int v2), (0, .ref x0), (1, .int x1)]) hx hb dX3_readyOf_5 rfl hl (by decide) rfl (fun ls hl => ?_)
  refine lv_aload_n hx hb dX3_readyOf_6 rfl (lv_at hl 1 rfl) ?_
  obtain ⟨v3, ev3, hf⟩ := mm_bd hf
  refine mm_getR C hR fs_X3_11 ev3 dX3_readyOf_7 ?_
  refine lv_astore_n (lv' := [(3, .ref v3), (2, .int v2), (0, .ref x0), (1, .int x1)]) hx hb dX3_readyOf_10 rfl hl (by decide) rfl (fun ls hl => ?_)
  refine lv_aload_n hx hb dX3_readyOf_11 rfl (lv_at hl 0 rfl) ?_
  obtain ⟨v4, ev4, hf⟩ := mm_bd hf
  refine mm_alen C hR ev4 dX3_readyOf_12 ?_
  refine lv_istore (lv' := [(4, .int v4), (3, .ref v3), (2, .int v2), (0, .ref x0), (1, .int x1)]) hx hb dX3_readyOf_13 hl (by decide) rfl (fun ls hl => ?_)
  refine lv_iconst (v := 0) hx hb dX3_readyOf_15 (by decide) ?_
  refine lv_istore (lv' := [(5, .int (0 : Int32)), (4, .int v4), (3, .ref v3), (2, .int v2), (0, .ref x0), (1, .int x1)]) hx hb dX3_readyOf_16 hl (by decide) rfl (fun ls hl => ?_)
  obtain ⟨e11, he11, hf⟩ := mm_bd hf
  refine L18 x0 x1 v3 v4 e11 (fun x2_12 x5_13 he => ?_) _ v2 (0 : Int32) he11 H locs ls hR hS (lv_sub hl [4, 5, 3, 2, 1, 0] rfl)
  subst he
  intro H locs ls hR hS hl
  have hf := mm_u2e hf
  refine lv_iload_n hx hb dX3_readyOf_62 rfl (lv_at hl 0 rfl) ?_
  exact mm_ire C hR hS hr ((Option.some.inj hf)) rfl dX3_readyOf_63
