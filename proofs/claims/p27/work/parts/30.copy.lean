/-! a State is copied into another -/
theorem St_fz {M M' : mm_M} {z z2 : Nat} {v : Nat → Int32} (h : St M z2 v) (hF : Fz z M M') (hd : z2 + 28 ≤ z ∨ z + 28 ≤ z2) : St M' z2 v := St_kept h (fun a h1 h2 => hF a (by omega))
theorem px_k {M : mm_M} {a n b c : Nat} {k k' : Nat → Int32} {o : mm_O} (h : px M a n k b) (hc : a ≠ c) (hk : ∀ j, b ≤ j → j < b + n → k' j = k j) : px (mm_up M c o) a n k' b := px_congr (px_kept h (mm_up_n _ _ hc)) hk
theorem pS_k {M : mm_M} {z i c : Nat} {k k' : Nat → Int32} {o : mm_O} (h : pS M z i k) (hc : z + 7 + 2 * i ≠ c) (hc2 : z + 8 + 2 * i ≠ c) (hk : ∀ j, 408 + 11 * i ≤ j → j < 419 + 11 * i → k' j = k j) : pS (mm_up M c o) z i k' := by
  obtain ⟨h1, h2⟩ := h
  refine ⟨?_, px_k h2 hc2 (fun j _ _ => hk j (by omega) (by omega))⟩
  rw [mm_up_n _ _ hc, h1, hk (408 + 11 * i) (by omega) (by omega), hk (409 + 11 * i) (by omega) (by omega), hk (410 + 11 * i) (by omega) (by omega), hk (411 + 11 * i) (by omega) (by omega), hk (412 + 11 * i) (by omega) (by omega)]
theorem cp_px {M : mm_M} {a0 a n b : Nat} {v : Nat → Int32} {f : Nat → Int32} {x : Int32} (hs : px M a0 n v b) (ha : M a = some (.inr (0, n, .inl f))) (hx : x.toInt = n) : ∃ g, mm_cp M a0 0 a 0 x = some (mm_up M a (.inr (0, n, .inl g))) ∧ ∀ j, j < n → g j = v (b + j) := by
  obtain ⟨f0, h1, h2⟩ := hs
  have e : x.toNatClampNeg = n := by rw [zz_cl]; omega
  have e0 : (0 : Int32).toNatClampNeg = 0 := rfl
  refine ⟨va_cpy f0 f 0 0 n, ?_, fun j hj => ?_⟩
  · simp only [mm_cp, h1, ha]
    rw [if_pos ⟨trivial, trivial, by decide, by decide, by omega, by rw [e0, e]; omega, by rw [e0, e]; omega⟩, e0, e]
  · unfold va_cpy
    rw [if_pos ⟨by omega, by omega⟩]
    simp only [Nat.sub_zero, Nat.zero_add]
    exact h2 j hj
theorem x_w {M : mm_M} {z : Nat} {k : Nat → Int32} (h : St M z k) {a0 : Nat} {v : Nat → Int32} (hs : px M a0 144 v 20) {x : Int32} (hx : x.toInt = 144) : ∃ M', mm_cp M a0 0 (z + 2) 0 x = some M' ∧ St M' z (fun j => if 20 ≤ j ∧ j < 164 then v j else k j) ∧ Fz z M M' := by
  obtain ⟨h0, h1, h2, h3, h4, h5, h6, h7, h8⟩ := h
  obtain ⟨f, g1, g2⟩ := id h2
  obtain ⟨g, c1, c2⟩ := cp_px hs g1 hx
  exact ⟨_, c1, ⟨by rw [mm_up_n _ _ (by omega)]; exact h0, by rw [mm_up_n _ _ (by omega)]; exact h1, ⟨g, mm_up_s _ _ _, fun j hj => (c2 j hj).trans (if_pos (by omega)).symm⟩, px_k h3 (by omega) (fun j _ _ => if_neg (by omega)), by rw [mm_up_n _ _ (by omega)]; exact h4, pR_n h5 (by omega), px_k h6 (by omega) (fun j _ _ => if_neg (by omega)), px_k h7 (by omega) (fun j _ _ => if_neg (by omega)), fun i hi => pS_k (h8 i hi) (by omega) (by omega) (fun j _ _ => if_neg (by omega))⟩, Fz_up (by omega) (by omega)⟩
theorem x_p {M : mm_M} {z : Nat} {k : Nat → Int32} (h : St M z k) {a0 : Nat} {v : Nat → Int32} (hs : px M a0 8 v 12) {x : Int32} (hx : x.toInt = 8) : ∃ M', mm_cp M a0 0 (z + 3) 0 x = some M' ∧ St M' z (fun j => if 12 ≤ j ∧ j < 20 then v j else k j) ∧ Fz z M M' := by
  obtain ⟨h0, h1, h2, h3, h4, h5, h6, h7, h8⟩ := h
  obtain ⟨f, g1, g2⟩ := id h3
  obtain ⟨g, c1, c2⟩ := cp_px hs g1 hx
  exact ⟨_, c1, ⟨by rw [mm_up_n _ _ (by omega)]; exact h0, by rw [mm_up_n _ _ (by omega)]; exact h1, px_k h2 (by omega) (fun j _ _ => if_neg (by omega)), ⟨g, mm_up_s _ _ _, fun j hj => (c2 j hj).trans (if_pos (by omega)).symm⟩, by rw [mm_up_n _ _ (by omega)]; exact h4, pR_n h5 (by omega), px_k h6 (by omega) (fun j _ _ => if_neg (by omega)), px_k h7 (by omega) (fun j _ _ => if_neg (by omega)), fun i hi => pS_k (h8 i hi) (by omega) (by omega) (fun j _ _ => if_neg (by omega))⟩, Fz_up (by omega) (by omega)⟩
theorem x_h {M : mm_M} {z : Nat} {k : Nat → Int32} (h : St M z k) {a0 : Nat} {v : Nat → Int32} (hs : px M a0 100 v 308) {x : Int32} (hx : x.toInt = 100) : ∃ M', mm_cp M a0 0 (z + 6) 0 x = some M' ∧ St M' z (fun j => if 308 ≤ j ∧ j < 408 then v j else k j) ∧ Fz z M M' := by
  obtain ⟨h0, h1, h2, h3, h4, h5, h6, h7, h8⟩ := h
  obtain ⟨f, g1, g2⟩ := id h6
  obtain ⟨g, c1, c2⟩ := cp_px hs g1 hx
  exact ⟨_, c1, ⟨by rw [mm_up_n _ _ (by omega)]; exact h0, by rw [mm_up_n _ _ (by omega)]; exact h1, px_k h2 (by omega) (fun j _ _ => if_neg (by omega)), px_k h3 (by omega) (fun j _ _ => if_neg (by omega)), by rw [mm_up_n _ _ (by omega)]; exact h4, pR_n h5 (by omega), ⟨g, mm_up_s _ _ _, fun j hj => (c2 j hj).trans (if_pos (by omega)).symm⟩, px_k h7 (by omega) (fun j _ _ => if_neg (by omega)), fun i hi => pS_k (h8 i hi) (by omega) (by omega) (fun j _ _ => if_neg (by omega))⟩, Fz_up (by omega) (by omega)⟩
theorem x_l {M : mm_M} {z : Nat} {k : Nat → Int32} (h : St M z k) {a0 : Nat} {v : Nat → Int32} (hs : px M a0 144 v 164) {x : Int32} (hx : x.toInt = 144) : ∃ M', mm_cp M a0 0 (z + 27) 0 x = some M' ∧ St M' z (fun j => if 164 ≤ j ∧ j < 308 then v j else k j) ∧ Fz z M M' := by
  obtain ⟨h0, h1, h2, h3, h4, h5, h6, h7, h8⟩ := h
  obtain ⟨f, g1, g2⟩ := id h7
  obtain ⟨g, c1, c2⟩ := cp_px hs g1 hx
  exact ⟨_, c1, ⟨by rw [mm_up_n _ _ (by omega)]; exact h0, by rw [mm_up_n _ _ (by omega)]; exact h1, px_k h2 (by omega) (fun j _ _ => if_neg (by omega)), px_k h3 (by omega) (fun j _ _ => if_neg (by omega)), by rw [mm_up_n _ _ (by omega)]; exact h4, pR_n h5 (by omega), px_k h6 (by omega) (fun j _ _ => if_neg (by omega)), ⟨g, mm_up_s _ _ _, fun j hj => (c2 j hj).trans (if_pos (by omega)).symm⟩, fun i hi => pS_k (h8 i hi) (by omega) (by omega) (fun j _ _ => if_neg (by omega))⟩, Fz_up (by omega) (by omega)⟩
theorem x_f {M : mm_M} {z : Nat} {k : Nat → Int32} (h : St M z k) {q : Nat} (hq : q < 10) {a0 : Nat} {v : Nat → Int32} (hs : px M a0 6 v (413 + 11 * q)) {x : Int32} (hx : x.toInt = 6) : ∃ M', mm_cp M a0 0 (z + 8 + 2 * q) 0 x = some M' ∧ St M' z (fun j => if 413 + 11 * q ≤ j ∧ j < 419 + 11 * q then v j else k j) ∧ Fz z M M' := by
  obtain ⟨h0, h1, h2, h3, h4, h5, h6, h7, h8⟩ := h
  obtain ⟨f, g1, g2⟩ := (h8 q hq).2
  obtain ⟨g, c1, c2⟩ := cp_px hs g1 hx
  generalize hkp : (fun j => if 413 + 11 * q ≤ j ∧ j < 419 + 11 * q then v j else k j) = kp
  have kk : ∀ j, j < 413 + 11 * q ∨ 419 + 11 * q ≤ j → kp j = k j := fun j hj => by rw [← hkp]; exact if_neg (by omega)
  have kk1 : ∀ j, 413 + 11 * q ≤ j → j < 419 + 11 * q → kp j = v j := fun j h1 h2 => by rw [← hkp]; exact if_pos (by omega)
  refine ⟨_, c1, ⟨?_, ?_, px_k h2 (by omega) (fun j _ _ => kk j (by omega)), px_k h3 (by omega) (fun j _ _ => kk j (by omega)), ?_, pR_n h5 (by omega), px_k h6 (by omega) (fun j _ _ => kk j (by omega)), px_k h7 (by omega) (fun j _ _ => kk j (by omega)), fun i hi => ?_⟩, Fz_up (by omega) (by omega)⟩
  · rw [mm_up_n _ _ (by omega), h0, kk 7 (by omega)]
  · rw [mm_up_n _ _ (by omega), h1, kk 4 (by omega), kk 5 (by omega), kk 0 (by omega), kk 1 (by omega)]
  · rw [mm_up_n _ _ (by omega), h4, kk 6 (by omega), kk 2 (by omega), kk 3 (by omega), kk 8 (by omega), kk 9 (by omega), kk 10 (by omega), kk 11 (by omega)]
  · by_cases hiq : i = q
    · subst hiq
      refine ⟨?_, ⟨g, mm_up_s _ _ _, fun j hj => by rw [kk1 _ (by omega) (by omega)]; exact c2 j hj⟩⟩
      rw [mm_up_n _ _ (by omega), (h8 i hi).1, kk (408 + 11 * i) (by omega), kk (409 + 11 * i) (by omega), kk (410 + 11 * i) (by omega), kk (411 + 11 * i) (by omega), kk (412 + 11 * i) (by omega)]
    · exact pS_k (h8 i hi) (by omega) (by omega) (fun j _ _ => kk j (by omega))
section CP
variable {M : mm_M} {z z2 : Nat} {k v : Nat → Int32}
theorem p_copy (h : St M z k) (hv : St M z2 v) (hd : z2 + 28 ≤ z ∨ z + 28 ≤ z2) : ∃ M', ff_X1_copyFrom M (z + 1) (z2 + 1) = some M' ∧ St M' z (fun j => if j < 2 ∨ j = 4 ∨ j = 5 ∨ (12 ≤ j ∧ j < 164) then v j else k j) ∧ Fz z M M' := by
  obtain ⟨M1, e1, S1, F1⟩ := x_w h hv.2.2.1 (x := 144) rfl
  have v1 := St_fz hv F1 hd
  obtain ⟨M2, e2, S2, F2⟩ := x_p S1 v1.2.2.2.1 (x := 8) rfl
  have v2 := St_fz v1 F2 hd
  obtain ⟨M3, e3, S3, F3⟩ := w_p2 S2 (v 4)
  have v3 := St_fz v2 F3 hd
  obtain ⟨M4, e4, S4, F4⟩ := w_p3 S3 (v 5)
  have v4 := St_fz v3 F4 hd
  obtain ⟨M5, e5, S5, F5⟩ := w_p4 S4 (v 0)
  have v5 := St_fz v4 F5 hd
  obtain ⟨M6, e6, S6, F6⟩ := w_p5 S5 (v 1)
  refine ⟨M6, ?_, St_congr S6 (fun j hj => ?_), Fz_tr F1 (Fz_tr F2 (Fz_tr F3 (Fz_tr F4 (Fz_tr F5 F6))))⟩
  · simp only [ff_X1_copyFrom, g_p0 hv, g_p0 h, l_w h, e1, g_p1 v1, g_p1 S1, l_p S1, e2, g_p2 v2, e3, g_p3 v3, e4, g_p4 v4, e5, g_p5 v5, e6, Option.bind_some]
  · simp only [upd]
    repeat' split
    all_goals first | rfl | (subst_vars; rfl) | (exfalso; omega)
theorem r_copy (h : St M z k) (hv : St M z2 v) (hd : z2 + 28 ≤ z ∨ z + 28 ≤ z2) {q : Nat} (hq : q < 10) : ∃ M', ff_X4_copyFrom M (z + 7 + 2 * q) (z2 + 7 + 2 * q) = some M' ∧ St M' z (fun j => if 408 + 11 * q ≤ j ∧ j < 419 + 11 * q then v j else k j) ∧ Fz z M M' := by
  obtain ⟨M1, e1, S1, F1⟩ := x_f h hq (hv.2.2.2.2.2.2.2.2 q hq).2 (x := 6) rfl
  have v1 := St_fz hv F1 hd
  obtain ⟨M2, e2, S2, F2⟩ := w_r1 S1 hq (v (411 + 11 * q))
  have v2 := St_fz v1 F2 hd
  obtain ⟨M3, e3, S3, F3⟩ := w_r2 S2 hq (v (408 + 11 * q))
  have v3 := St_fz v2 F3 hd
  obtain ⟨M4, e4, S4, F4⟩ := w_r3 S3 hq (v (409 + 11 * q))
  have v4 := St_fz v3 F4 hd
  obtain ⟨M5, e5, S5, F5⟩ := w_r4 S4 hq (v (410 + 11 * q))
  have v5 := St_fz v4 F5 hd
  obtain ⟨M6, e6, S6, F6⟩ := w_r5 S5 hq (v (412 + 11 * q))
  refine ⟨M6, ?_, St_congr S6 (fun j hj => ?_), Fz_tr F1 (Fz_tr F2 (Fz_tr F3 (Fz_tr F4 (Fz_tr F5 F6))))⟩
  · simp only [ff_X4_copyFrom, g_r0 hv hq, g_r0 h hq, l_f h hq, e1, g_r1 v1 hq, e2, g_r2 v2 hq, e3, g_r3 v3 hq, e4, g_r4 v4 hq, e5, g_r5 v5 hq, e6, Option.bind_some]
  · simp only [upd]
    repeat' split
    all_goals first | rfl | (subst_vars; rfl) | (exfalso; omega)
theorem t_copy (h : St M z k) (hv : St M z2 v) (hd : z2 + 28 ≤ z ∨ z + 28 ≤ z2) : ∃ M', ff_X3_copyFrom M (z + 4) (z2 + 4) = some M' ∧ St M' z (fun j => if j = 2 ∨ j = 3 ∨ j = 6 ∨ (8 ≤ j ∧ j < 12) ∨ (308 ≤ j ∧ j < 518) then v j else k j) ∧ Fz z M M' := by
  obtain ⟨⟨x0, M0⟩, a1, a2, a3⟩ := it_inv (body := mm_u2 (ff_X3_copyFrom_l2 (z + 4) (z2 + 4))) (fun t (st : Int32 × mm_M) => st.1 = nI t ∧ St st.2 z (fun j => if 408 ≤ j ∧ j < 408 + 11 * t then v j else k j) ∧ Fz z M st.2)
    (fun e => St e.2 z (fun j => if 408 ≤ j ∧ j < 518 then v j else k j) ∧ Fz z M e.2) 10 (by
      rintro t ⟨x, M'⟩ ht ⟨hx, hS, hF⟩
      dsimp only at hx hS hF
      subst hx
      have et := zz_nI t (by omega)
      have hv' := St_fz hv hF hd
      obtain ⟨M2, b1, b2, b3⟩ := r_copy hS hv' hd ht
      refine Or.inl ⟨(nI (t + 1), M2), ?_, rfl, St_congr b2 (fun j hj => ?_), Fz_tr hF b3⟩
      · have r1 := a_r hS (i := nI t) (by omega) (by omega)
        have r2 := a_r hv' (i := nI t) (by omega) (by omega)
        rw [et] at r1 r2
        simp only [Int.toNat_natCast] at r1 r2
        show ff_X3_copyFrom_l2 (z + 4) (z2 + 4) (nI t) M' = _
        simp only [ff_X3_copyFrom_l2, g_t0 hS, l_r hS, g_t0 hv', l_r hv', r1, r2, c_r hS ht, b1, Option.bind_some]
        rw [if_neg (by rw [zz_le, z10]; omega), if_neg (by rw [zz_le, z10]; omega), nI_1]
      · repeat' split
        all_goals first | rfl | (exfalso; omega)) (by
      rintro ⟨x, M'⟩ ⟨hx, hS, hF⟩
      dsimp only at hx hS hF
      subst hx
      have et := zz_nI 10 (by omega)
      refine ⟨(nI 10, M'), ?_, hS, hF⟩
      show ff_X3_copyFrom_l2 (z + 4) (z2 + 4) (nI 10) M' = _
      simp only [ff_X3_copyFrom_l2, g_t0 hS, l_r hS, Option.bind_some]
      rw [if_pos (by decide)]) ((0 : Int32), M) mm_fu (mm_fu_gt (by omega)) ⟨rfl, St_congr h (fun j _ => if_neg (by omega)), Fz_rf⟩
  dsimp only at a2 a3
  have v0 := St_fz hv a3 hd
  obtain ⟨M1, e1, S1, F1⟩ := x_h a2 v0.2.2.2.2.2.2.1 (x := 100) rfl
  have v1 := St_fz v0 F1 hd
  obtain ⟨M2, e2, S2, F2⟩ := w_t2 S1 (v 6)
  have v2 := St_fz v1 F2 hd
  obtain ⟨M3, e3, S3, F3⟩ := w_t3 S2 (v 2)
  have v3 := St_fz v2 F3 hd
  obtain ⟨M4, e4, S4, F4⟩ := w_t4 S3 (v 3)
  have v4 := St_fz v3 F4 hd
  obtain ⟨M5, e5, S5, F5⟩ := w_t5 S4 (v 8)
  have v5 := St_fz v4 F5 hd
  obtain ⟨M6, e6, S6, F6⟩ := w_t6 S5 (v 9)
  have v6 := St_fz v5 F6 hd
  obtain ⟨M7, e7, S7, F7⟩ := w_t7 S6 (v 10)
  have v7 := St_fz v6 F7 hd
  obtain ⟨M8, e8, S8, F8⟩ := w_t8 S7 (v 11)
  refine ⟨M8, ?_, St_congr S8 (fun j hj => ?_), Fz_tr a3 (Fz_tr F1 (Fz_tr F2 (Fz_tr F3 (Fz_tr F4 (Fz_tr F5 (Fz_tr F6 (Fz_tr F7 F8)))))))⟩
  · simp only [ff_X3_copyFrom, a1, Option.bind_some]
    show Option.bind (mm_gR 3 M0 (z2 + 4) 1) _ = _
    simp only [g_t1 v0, g_t1 a2, l_h a2, e1, g_t2 v1, e2, g_t3 v2, e3, g_t4 v3, e4, g_t5 v4, e5, g_t6 v5, e6, g_t7 v6, e7, g_t8 v7, e8, Option.bind_some]
  · simp only [upd]
    repeat' split
    all_goals first | rfl | (subst_vars; rfl) | (exfalso; omega)
theorem v_copy (h : St M z k) (hv : St M z2 v) (hd : z2 + 28 ≤ z ∨ z + 28 ≤ z2) : ∃ M', ff_X2_copyFrom M z z2 = some M' ∧ St M' z v ∧ Fz z M M' := by
  obtain ⟨M1, e1, S1, F1⟩ := p_copy h hv hd
  have v1 := St_fz hv F1 hd
  obtain ⟨M2, e2, S2, F2⟩ := t_copy S1 v1 hd
  have v2 := St_fz v1 F2 hd
  obtain ⟨M3, e3, S3, F3⟩ := x_l S2 v2.2.2.2.2.2.2.2.1 (x := 144) rfl
  have v3 := St_fz v2 F3 hd
  obtain ⟨M4, e4, S4, F4⟩ := w_s3 S3 (v 7)
  refine ⟨M4, ?_, St_congr S4 (fun j hj => ?_), Fz_tr F1 (Fz_tr F2 (Fz_tr F3 F4))⟩
  · simp only [ff_X2_copyFrom, g_s0 h, g_s0 hv, c_p h, e1, g_s1 S1, g_s1 v1, c_t S1, e2, g_s2 v2, g_s2 S2, l_l S2, e3, g_s3 v3, e4, Option.bind_some]
  · simp only [upd]
    repeat' split
    all_goals first | rfl | (subst_vars; rfl) | (exfalso; omega)
end CP
