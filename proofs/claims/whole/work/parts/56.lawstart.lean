/-! the law's loop, and its start -/
theorem law_loop {p : Program} {l : Launch} {e : Env} {s : State} {m : MethodId} {below : List Frame} {meth : Method} {c : Code} {g : mm_G} {b L : Nat} {xs : Nat → Int32} (hL : L ≤ 2048) (C0 : lw_At p s m meth c b L xs) (C : mm_C g R_law code 4 p s m #[Value.ref b] meth c) {B : Nat} :
    ∀ (fuel t : Nat), L + 4 ≤ fuel + 4 * t → 4 * t ≤ L → ∀ (M : mm_M) (H : Heap) (locs : List Loc), IV t B M → mm_R g (fun q => s.heap.size ≤ q) M H → va_S (fun q => s.heap.size ≤ q) s.heap H locs → ∀ (ls : Array Slot), lv_has ls 4 [(0, .ref b), (1, .ref B), (2, .ref (B + 201)), (3, .int (nI (4 * t)))] → W p l e room_1 s m #[Value.ref b] below meth c H locs 207 7630 (lw_Z below #[Value.ref b] s) (F0 m 18 ls []) := by
  obtain ⟨hx, hb, hr, hml, hown, hts, hX, hbl, hlocks, hgv⟩ := C0
  have hbA : ¬ (fun q : Nat => s.heap.size ≤ q) b := Nat.not_le.mpr hbl
  intro fuel
  induction fuel with
  | zero =>
    intro t h1 h2
    exact absurd h1 (by omega)
  | succ fuel ih =>
    intro t hf ht M H locs hI hR hS ls hl
    have et := zz_nI (4 * t) (by omega)
    have eL := zz_nI L (by omega)
    refine lv_iload_n hx hb dL_law_18 rfl (lv_at hl 3 rfl) ?_
    refine lv_aload_n hx hb dL_law_19 rfl (lv_at hl 0 rfl) ?_
    refine va_slen hx hb hX hbl hbA hS dL_law_20 ?_
    refine lv_iconst (v := 4) hx hb dL_law_21 (by decide) ?_
    refine lv_isub hx hb dL_law_22 ?_
    have e4 : (Int32.ofNat L - 4).toInt = (L : Int) - 4 := by
      have eL' : (Int32.ofNat L).toInt = L := eL
      rw [zz_s (by rw [eL', z4]; omega) (by rw [eL', z4]; omega), eL', z4]
    refine lv_icmp_gt (tgt := 762) hx hb dL_law_23 (by decide) (fun _ => ?_) (fun hc => ?_)
    · refine lv_iconst (v := 1) hx hb dL_law_762 (by decide) ?_
      refine va_forget (fun q hq => hS.2.2 q hq) ?_
      refine W.widen (k := 600000) (n := 7302250) (Nat.le_of_ble_eq_true rfl) (Nat.le_of_ble_eq_true rfl) ?_
      exact lw_ret hx hb hr hlocks dL_law_763
    · have hc' : 4 * t + 4 ≤ L := by
        rw [zz_lt, e4] at hc
        omega
      have hn : (0 : Int) ≤ t ∧ (t : Int) ≤ 1000 := by omega
      have h0 : vp_in (nI (4 * t)) L := vp_in_nI (by omega) (by omega)
      have v1 : vp_in (nI (4 * t) + 1) L := by rw [nI_1]; exact vp_in_nI (by omega) (by omega)
      have v2 : vp_in (nI (4 * t) + 2) L := by
        rw [show nI (4 * t) + 2 = nI (4 * t + 2) from nI_add (4 * t) 2]; exact vp_in_nI (by omega) (by omega)
      have v3 : vp_in (nI (4 * t) + 3) L := by
        rw [show nI (4 * t) + 3 = nI (4 * t + 3) from nI_add (4 * t) 3]; exact vp_in_nI (by omega) (by omega)
      -- behind a case
      have kk : ∀ (M2 : mm_M) (H : Heap) (locs : List Loc), IV ((t : Int) + 1) B M2 → mm_R g (fun q => s.heap.size ≤ q) M2 H → va_S (fun q => s.heap.size ≤ q) s.heap H locs → W p l e room_1 s m #[Value.ref b] below meth c H locs 207 7630 (lw_Z below #[Value.ref b] s) (F0 m 756 ls []) := by
        intro M2 H locs hI2 hR2 hS2
        refine lv_iinc (v := nI (4 * (t + 1))) (lv' := [(3, .int (nI (4 * (t + 1)))), (0, .ref b), (1, .ref B), (2, .ref (B + 201))]) hx hb dL_law_756 hl (k := 3) rfl (show nI (4 * t) + nI 4 = _ from nI_add (4 * t) 4) (by decide) rfl (fun ls hl => ?_)
        refine lv_goto (tgt := 18) hx hb dL_law_759 (by decide) ?_
        exact ih (t + 1) (by omega) (by omega) M2 H locs hI2 hR2 hS2 ls (lv_sub hl [1, 2, 3, 0] rfl)
      refine lv_aload_n hx hb dL_law_26 rfl (lv_at hl 0 rfl) ?_
      refine lv_iload_n hx hb dL_law_27 rfl (lv_at hl 3 rfl) ?_
      refine va_sld hx hb hX hbl hbA hS h0 dL_law_28 ?_
      refine lv_bipush (v := 31) hx hb dL_law_29 (by decide) ?_
      refine lv_iand hx hb dL_law_31 ?_
      refine lv_topi (fun w ew => ?_)
      clear ew
      by_cases ho : w.toInt < 0 ∨ 23 < w.toInt
      · refine lv_tableOut (tgt := 756) hx hb dL_law_32 ho (by decide) ?_
        exact kk M H locs (by obtain ⟨k, u, pg, m1, sp, sv, tx, rd, tl, rc, hC, hD, hK⟩ := hI; exact ⟨k, u, pg, m1, sp, sv, tx, rd, tl, rc, hC, hD, KR_mono hK (by omega)⟩) hR hS
      · obtain ⟨n, n1, n2⟩ := nat_of (a := w) (by omega)
        have hn23 : n ≤ 23 := by omega
        subst n2
        have hh : n = 0 ∨ n = 1 ∨ n = 2 ∨ n = 3 ∨ n = 4 ∨ n = 5 ∨ n = 6 ∨ n = 7 ∨ n = 8 ∨ n = 9 ∨ n = 10 ∨ n = 11 ∨ n = 12 ∨ n = 13 ∨ n = 14 ∨ n = 15 ∨ n = 16 ∨ n = 17 ∨ n = 18 ∨ n = 19 ∨ n = 20 ∨ n = 21 ∨ n = 22 ∨ n = 23 := by omega
        rcases hh with rfl | rfl | rfl | rfl | rfl | rfl | rfl | rfl | rfl | rfl | rfl | rfl | rfl | rfl | rfl | rfl | rfl | rfl | rfl | rfl | rfl | rfl | rfl | rfl
        · exact lv_tableIn (off := 112) (tgt := 144) hx hb dL_law_32 (by decide) (by decide) rfl (by decide) (lwc_0 C hX hbl hn v1 v2 v3 hI hR hS hl kk)
        · exact lv_tableIn (off := 145) (tgt := 177) hx hb dL_law_32 (by decide) (by decide) rfl (by decide) (lwc_1 C hX hbl hn v1 v2 v3 hI hR hS hl kk)
        · exact lv_tableIn (off := 178) (tgt := 210) hx hb dL_law_32 (by decide) (by decide) rfl (by decide) (lwc_2 C hX hbl hn v1 v2 v3 hI hR hS hl kk)
        · exact lv_tableIn (off := 191) (tgt := 223) hx hb dL_law_32 (by decide) (by decide) rfl (by decide) (lwc_3 C hX hbl hn v1 v2 v3 hI hR hS hl kk)
        · exact lv_tableIn (off := 214) (tgt := 246) hx hb dL_law_32 (by decide) (by decide) rfl (by decide) (lwc_4 C hX hbl hn v1 v2 v3 hI hR hS hl kk)
        · exact lv_tableIn (off := 257) (tgt := 289) hx hb dL_law_32 (by decide) (by decide) rfl (by decide) (lwc_5 C hX hbl hn v1 v2 v3 hI hR hS hl kk)
        · exact lv_tableIn (off := 300) (tgt := 332) hx hb dL_law_32 (by decide) (by decide) rfl (by decide) (lwc_6 C hX hbl hn v1 v2 v3 hI hR hS hl kk)
        · exact lv_tableIn (off := 323) (tgt := 355) hx hb dL_law_32 (by decide) (by decide) rfl (by decide) (lwc_7 C hX hbl hn v1 v2 v3 hI hR hS hl kk)
        · exact lv_tableIn (off := 346) (tgt := 378) hx hb dL_law_32 (by decide) (by decide) rfl (by decide) (lwc_8 C hX hbl hn v1 v2 v3 hI hR hS hl kk)
        · exact lv_tableIn (off := 359) (tgt := 391) hx hb dL_law_32 (by decide) (by decide) rfl (by decide) (lwc_9 C hX hbl hn v1 v2 v3 hI hR hS hl kk)
        · exact lv_tableIn (off := 392) (tgt := 424) hx hb dL_law_32 (by decide) (by decide) rfl (by decide) (lwc_10 C hX hbl hn v1 v2 v3 hI hR hS hl kk)
        · exact lv_tableIn (off := 425) (tgt := 457) hx hb dL_law_32 (by decide) (by decide) rfl (by decide) (lwc_11 C hX hbl hn v1 v2 v3 hI hR hS hl kk)
        · exact lv_tableIn (off := 448) (tgt := 480) hx hb dL_law_32 (by decide) (by decide) rfl (by decide) (lwc_12 C hX hbl hn v1 v2 v3 hI hR hS hl kk)
        · exact lv_tableIn (off := 481) (tgt := 513) hx hb dL_law_32 (by decide) (by decide) rfl (by decide) (lwc_13 C hX hbl hn v1 v2 v3 hI hR hS hl kk)
        · exact lv_tableIn (off := 514) (tgt := 546) hx hb dL_law_32 (by decide) (by decide) rfl (by decide) (lwc_14 C hX hbl hn v1 v2 v3 hI hR hS hl kk)
        · exact lv_tableIn (off := 527) (tgt := 559) hx hb dL_law_32 (by decide) (by decide) rfl (by decide) (lwc_15 C hX hbl hn v1 v2 v3 hI hR hS hl kk)
        · exact lv_tableIn (off := 560) (tgt := 592) hx hb dL_law_32 (by decide) (by decide) rfl (by decide) (lwc_16 C hX hbl hn v1 v2 v3 hI hR hS hl kk)
        · exact lv_tableIn (off := 593) (tgt := 625) hx hb dL_law_32 (by decide) (by decide) rfl (by decide) (lwc_17 C hX hbl hn v1 v2 v3 hI hR hS hl kk)
        · exact lv_tableIn (off := 616) (tgt := 648) hx hb dL_law_32 (by decide) (by decide) rfl (by decide) (lwc_18 C hX hbl hn v1 v2 v3 hI hR hS hl kk)
        · exact lv_tableIn (off := 639) (tgt := 671) hx hb dL_law_32 (by decide) (by decide) rfl (by decide) (lwc_19 C hX hbl hn v1 v2 v3 hI hR hS hl kk)
        · exact lv_tableIn (off := 662) (tgt := 694) hx hb dL_law_32 (by decide) (by decide) rfl (by decide) (lwc_20 C hX hbl hn v1 v2 v3 hI hR hS hl kk)
        · exact lv_tableIn (off := 675) (tgt := 707) hx hb dL_law_32 (by decide) (by decide) rfl (by decide) (lwc_21 C hX hbl hn v1 v2 v3 hI hR hS hl kk)
        · exact lv_tableIn (off := 698) (tgt := 730) hx hb dL_law_32 (by decide) (by decide) rfl (by decide) (lwc_22 C hX hbl hn v1 v2 v3 hI hR hS hl kk)
        · exact lv_tableIn (off := 711) (tgt := 743) hx hb dL_law_32 (by decide) (by decide) rfl (by decide) (lwc_23 C hX hbl hn v1 v2 v3 hI hR hS hl kk)
theorem df_6' : ∀ j, j < 4 → defaultValue (tyX6 j) = vp_V [.null, .null, .null, .null] j := df_6
theorem whole_start {p : Program} {e : Env} {s : State} {m : MethodId} {below : List Frame} {meth : Method} {c : Code} (l : Launch) (hflags : l.flags = flags0) {b L : Nat} {xs : Nat → Int32} (hL : L ≤ 2048) (C0 : lw_At p s m meth c b L xs) : W p l e room_1 s m #[Value.ref b] below meth c s.heap [] 0 0 (lw_Z below #[Value.ref b] s) (entryFrame m ([Value.ref b] : List Value).toArray 4) := by
  obtain ⟨hx, hb, hr, hml, hown, hts, hX, hbl, hlocks, hgv⟩ := id C0
  obtain ⟨g, hK⟩ := law_K hts
  have C : mm_C g R_law code 4 p s m #[Value.ref b] meth c := ⟨hx, hb, hml, hown, fun w h => hts w (List.mem_filter.mp h).1, hK, hlocks⟩
  have hA : ∀ q : Nat, s.heap.size ≤ q → (fun q : Nat => s.heap.size ≤ q) q := fun _ h => h
  have hS : va_S (fun q : Nat => s.heap.size ≤ q) s.heap s.heap [] := va_S.rf
  have hR : mm_R g (fun q : Nat => s.heap.size ≤ q) (fun _ => none) s.heap := ⟨[], fun a => by simp, fun k q h => by simp [va_pl] at h, fun i j p q h => by simp [va_pl] at h, fun k q h => by simp [va_pl] at h⟩
  obtain ⟨B, hB⟩ : ∃ B, s.heap.size = B := ⟨_, rfl⟩
  obtain ⟨N1, a1, a2, a3⟩ := o_nO 6 [.null, .null, .null, .null] B (fun _ => none)
  obtain ⟨N2, b1, b2, b3⟩ := x_6 a2
  obtain ⟨N3, c1, c2, c3⟩ := o_nO 7 [.null, .null, .null, .int 0, .null, .int 0, .null, .int 0] (B + 201) N2
  obtain ⟨N4, d1, d2, d3⟩ := x_7 c2
  have hI : IV 0 B N4 := IV_0 (Ci_kept b2 (fun a w1 w2 => by rw [d3 _ (by omega), c3 _ (by omega)])) d2
  have hl := lv_entry ([.ref b]) (n := 4) (Nat.le_of_ble_eq_true rfl)
  rw [lg_entry_eq]
  generalize (lg_sl ([.ref b]) ++ List.replicate (4 - (lg_sl ([.ref b])).length) Slot.unset).toArray = ls at hl ⊢
  have hl : lv_has ls 4 [(0, .ref b)] := hl
  refine mm_newOx (z := B) (cells := 0) (slots := 0) (fs := [.null, .null, .null, .null]) C hR hS hB (by rw [← hB]; exact hA) (by omega) (by omega) (B + 1) 1 4 rfl rfl rfl tyX6 rfl iw_6 tyX6_ok mw_12 mw_13 mw_1 df_6 (Nat.le_of_ble_eq_true rfl) (Nat.le_of_ble_eq_true rfl) a1 dL_law_0 (fun H hz hR hS => ?_)
  refine lv_dup hx hb dL_law_3 rfl ?_
  refine mm_callIx (sz := B + 1) (sz2 := B + 1 + 200) (a := B) (As := []) (rest := [.ref B]) C hR hS hl.1 hB hz (by omega) (B + 201) 201 3908 (by omega) rfl rfl is_L_9 (jj_X6_init l g _ (B + 1) (fun q h => by show s.heap.size ≤ q; omega) N1 B N2 b1) ⟨rfl, rfl, (Nat.le_of_ble_eq_true rfl), (Nat.le_of_ble_eq_true rfl)⟩ rfl (Nat.le_of_ble_eq_true rfl) ⟨(Nat.le_of_ble_eq_true rfl), (Nat.le_of_ble_eq_true rfl)⟩ rfl dL_law_4 (fun H locs hz hR hS => ?_)
  refine lv_astore_n (lv' := [(1, .ref B), (0, .ref b)]) hx hb dL_law_7 rfl hl (by decide) rfl (fun ls hl => ?_)
  refine mm_newOx (z := B + 201) (cells := 201) (slots := 3908) (fs := [.null, .null, .null, .int 0, .null, .int 0, .null, .int 0]) C hR hS hB (by rw [← hB]; exact hA) hz rfl (B + 202) 202 3916 rfl rfl rfl tyX7 rfl iw_7 tyX7_ok mw_621 mw_622 mw_9 df_7 (Nat.le_of_ble_eq_true rfl) (Nat.le_of_ble_eq_true rfl) c1 dL_law_8 (fun H hz hR hS => ?_)
  refine lv_dup hx hb dL_law_11 rfl ?_
  refine mm_callIx (sz := B + 202) (sz2 := B + 202 + 5) (a := B + 201) (As := []) (rest := [.ref (B + 201)]) C hR hS hl.1 hB hz rfl (B + 207) 207 7630 rfl rfl rfl is_L_12 (jj_X7_init l g _ (B + 202) (fun q h => by show s.heap.size ≤ q; omega) N3 (B + 201) N4 d1) ⟨rfl, rfl, (Nat.le_of_ble_eq_true rfl), (Nat.le_of_ble_eq_true rfl)⟩ rfl (Nat.le_of_ble_eq_true rfl) ⟨(Nat.le_of_ble_eq_true rfl), (Nat.le_of_ble_eq_true rfl)⟩ rfl dL_law_12 (fun H locs hz hR hS => ?_)
  refine lv_astore_n (lv' := [(2, .ref (B + 201)), (1, .ref B), (0, .ref b)]) hx hb dL_law_15 rfl hl (by decide) rfl (fun ls hl => ?_)
  refine lv_iconst (v := 0) hx hb dL_law_16 (by decide) ?_
  refine lv_istore_n (lv' := [(3, .int 0), (2, .ref (B + 201)), (1, .ref B), (0, .ref b)]) hx hb dL_law_17 rfl hl (by decide) rfl (fun ls hl => ?_)
  exact law_loop hL C0 C (L + 4) 0 (by omega) (by omega) N4 H locs hI hR hS ls (lv_sub hl [3, 2, 1, 0] rfl)
