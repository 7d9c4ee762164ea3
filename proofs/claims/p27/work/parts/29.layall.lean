/-! laying all, lifting, what lacks -/
def IP (n : Int) (k : Nat → Int32) : Prop := Rp k ∧ Rl k ∧ Rs k ∧ Rh n k
theorem Rs_congr {k k' : Nat → Int32} (h : Rs k) (h2 : k' 2 = k 2) (h3 : k' 3 = k 3) (h6 : k' 6 = k 6) (hs : ∀ j, 408 ≤ j → j < 518 → k' j = k j) : Rs k' := by
  refine ⟨by rw [h2]; exact h.1, by rw [h3]; exact h.2.1, by rw [h6]; exact h.2.2.1, fun i hi => ?_⟩
  rw [hs (408 + 11 * i) (by omega) (by omega), hs (409 + 11 * i) (by omega) (by omega), hs (410 + 11 * i) (by omega) (by omega), hs (411 + 11 * i) (by omega) (by omega), h6]
  exact h.2.2.2 i hi
theorem IP_pB {n : Int} {k : Nat → Int32} (h : IP n k) {s : Int32} (h0 : 0 ≤ s.toInt) (h1 : s.toInt ≤ 99) (ha : av k s.toInt.toNat) : IP n (pB k s) := by
  obtain ⟨hp, hl, hr, hh⟩ := h
  have w : ∀ j, j < 308 → j ≠ 10 → j ≠ 8 → j ≠ 9 → pB k s j = k j := fun j a b c d => pB_n a b c d
  refine ⟨?_, ?_, ?_, ?_⟩
  · unfold Rp
    rw [w 0 (by omega) (by omega) (by omega) (by omega), w 1 (by omega) (by omega) (by omega) (by omega), w 4 (by omega) (by omega) (by omega) (by omega), w 5 (by omega) (by omega) (by omega) (by omega)]
    exact hp
  · refine ⟨fun j hj => by rw [w _ (by omega) (by omega) (by omega) (by omega)]; exact hl.1 j hj, fun x y hx hy hn => ?_, fun j hj => by rw [w _ (by omega) (by omega) (by omega) (by omega)]; exact hl.2.2.1 j hj, fun j hj => ?_⟩
    · rw [w 0 (by omega) (by omega) (by omega) (by omega), w 1 (by omega) (by omega) (by omega) (by omega)] at hn
      rw [w _ (by omega) (by omega) (by omega) (by omega)]
      exact hl.2.1 x y hx hy hn
    · rw [w 4 (by omega) (by omega) (by omega) (by omega)] at hj
      unfold Rp at hp
      rw [w _ (by omega) (by omega) (by omega) (by omega)]
      exact hl.2.2.2 j hj
  · unfold pB
    split
    · exact Rs_congr hr (upd_n (by omega)) (upd_n (by omega)) (upd_n (by omega)) (fun j _ _ => upd_n (by omega))
    · rename_i hp0
      obtain ⟨i1, i2, -⟩ := fi_sp (av_gv h0 ha hp0)
      simp only [gv, decide_eq_true_eq] at i2
      obtain ⟨n1, n2, n3⟩ := fi_sp (cn_pos.mp i2.2)
      exact (pcs_b hr i1 _ n1).2
  · intro q hq
    unfold pB
    split
    · by_cases hqs : q = s.toInt.toNat
      · subst hqs
        have := hh s.toInt.toNat hq
        have := zz_r (k (308 + s.toInt.toNat))
        rw [upd_s, zz_s (by rw [z1]; omega) (by rw [z1]; omega), z1]
        omega
      · rw [upd_n (by omega)]; exact hh q hq
    · rw [pcs_n (by omega) (by omega) (by omega) (by omega) (by omega)]
      exact hh q hq
theorem pL_w {k : Nat → Int32} {x y : Int32} {j : Nat} (h1 : j < 164) (h2 : j ≠ 10) (h3 : j ≠ 8) (h4 : j ≠ 9) : pL k x y j = k j := by
  unfold pL
  split
  · split
    · rfl
    · rw [upd_n (by omega), pB_n (by omega) h2 h3 h4]
  · rfl
theorem IP_pL {n : Int} {k : Nat → Int32} (h : IP n k) {x y : Int32} (hi : ins k x y) (hnb : nb (av k) (wn k x y).toInt (nf k (wn k x y).toInt)) (hb : nf k (wn k x y).toInt ≤ 99) : IP n (pL k x y) := by
  have hi' := hi
  unfold ins at hi'
  unfold pL
  split
  · split
    · exact h
    · rename_i hc hn
      generalize nf k (wn k x y).toInt = r at *
      obtain ⟨s, rfl, hav, -⟩ : ∃ s : Nat, r = s ∧ av k s ∧ True := by
        rcases hnb with ⟨q, -⟩ | ⟨s, q1, q2, -⟩
        · exact absurd q hn
        · exact ⟨s, q1, q2, trivial⟩
      have es : (Int32.ofInt (s : Int)).toInt = s := ofI (by omega) hb
      obtain ⟨hp, hl, hr, hh⟩ := IP_pB h (s := Int32.ofInt s) (by omega) (by omega) (by rw [es]; exact hav)
      have w0 : pB k (Int32.ofInt s) 0 = k 0 := pB_n (by omega) (by omega) (by omega) (by omega)
      have w1 : pB k (Int32.ofInt s) 1 = k 1 := pB_n (by omega) (by omega) (by omega) (by omega)
      have w4 : pB k (Int32.ofInt s) 4 = k 4 := pB_n (by omega) (by omega) (by omega) (by omega)
      have hp0 := h.1
      unfold Rp at hp0
      refine ⟨?_, ⟨fun j hj => ?_, fun x' y' hx hy hn => ?_, fun j hj => by rw [upd_n (by omega)]; exact hl.2.2.1 j hj, fun j hj => ?_⟩, ?_, fun q hq => by rw [upd_n (by omega)]; exact hh q hq⟩
      · unfold Rp
        rw [upd_n (by omega), upd_n (by omega), upd_n (by omega), upd_n (by omega)]
        exact hp
      · by_cases hj2 : 164 + j = 164 + (12 * y.toInt + x.toInt).toNat
        · rw [hj2, upd_s, es]; omega
        · rw [upd_n hj2]; exact hl.1 j hj
      · rw [upd_n (by omega), upd_n (by omega), w0, w1] at hn
        rw [upd_n (by omega)]
        exact hl.2.1 x' y' hx hy (by rw [w0, w1]; exact hn)
      · rw [upd_n (by omega), w4] at hj
        rw [upd_n (by omega)]
        exact hl.2.2.2 j (by rw [w4]; exact hj)
      · exact Rs_congr hr (upd_n (by omega)) (upd_n (by omega)) (upd_n (by omega)) (fun j _ _ => upd_n (by omega))
  · exact h
def cO (w h n : Int) : Int := if n < w + h - 2 then min n (w - 1) else max (w - 1 - (n - (w + h - 2))) 0
def rO (w h n : Int) : Int := if n < w + h - 2 then max (n - (w - 1)) 0 else min (2 * (w + h - 2) - n) (h - 1)
noncomputable def pb (k : Nat → Int32) : Nat → Nat → Int32
  | 0 => k
  | n + 1 => pL (pb k n) (Int32.ofInt (cO (k 0).toInt (k 1).toInt n)) (Int32.ofInt (rO (k 0).toInt (k 1).toInt n))
noncomputable def pr (k : Nat → Int32) (y : Nat) : Nat → Nat → Int32
  | 0 => k
  | t + 1 => pL (pr k y t) (nI (t + 1)) (nI y)
noncomputable def pf (k : Nat → Int32) (w : Nat) : Nat → Nat → Int32
  | 0 => k
  | t + 1 => pr (pf k w t) (t + 1) w
noncomputable def pA (k : Nat → Int32) : Nat → Int32 := pf (pb k (2 * ((k 0).toInt.toNat + (k 1).toInt.toNat - 2))) ((k 0).toInt.toNat - 2) ((k 1).toInt.toNat - 2)
theorem pb_w {k : Nat → Int32} {j : Nat} (h1 : j < 164) (h2 : j ≠ 10) (h3 : j ≠ 8) (h4 : j ≠ 9) : ∀ n, pb k n j = k j
  | 0 => rfl
  | n + 1 => (pL_w h1 h2 h3 h4).trans (pb_w h1 h2 h3 h4 n)
theorem pr_w {k : Nat → Int32} {y j : Nat} (h1 : j < 164) (h2 : j ≠ 10) (h3 : j ≠ 8) (h4 : j ≠ 9) : ∀ n, pr k y n j = k j
  | 0 => rfl
  | n + 1 => (pL_w h1 h2 h3 h4).trans (pr_w h1 h2 h3 h4 n)
theorem pf_w {k : Nat → Int32} {w j : Nat} (h1 : j < 164) (h2 : j ≠ 10) (h3 : j ≠ 8) (h4 : j ≠ 9) : ∀ n, pf k w n j = k j
  | 0 => rfl
  | n + 1 => (pr_w h1 h2 h3 h4 w).trans (pf_w h1 h2 h3 h4 n)
section LA
variable {M : mm_M} {z : Nat} {k : Nat → Int32} {n : Int}
theorem v_layI (h : St M z k) (hI : IP n k) {x y : Int32} (hi : ins k x y) : ∃ M', ff_X2_layCellIfPossible M z x y = some M' ∧ St M' z (pL k x y) ∧ Fz z M M' ∧ IP n (pL k x y) := by
  obtain ⟨M', e1, e2, e3⟩ := v_lay h hI.1 hI.2.1 hI.2.2.1 hI.2.2.2 hi
  obtain ⟨f1, f2, f3, f4⟩ := u_near h hI.1 hI.2.1 hI.2.2.1 hi
  exact ⟨M', e1, e2, e3, IP_pL hI hi f4 f3⟩
theorem p_col (h : St M z k) (hr : Rp k) {n : Nat} (hn : (n : Int) < 2 * ((k 0).toInt + (k 1).toInt - 2)) : ff_X1_columnOf M (z + 1) (nI n) = some (Int32.ofInt (cO (k 0).toInt (k 1).toInt n)) := by
  have eh := hB_i hr
  unfold Rp at hr
  have en := zz_nI n (by omega)
  have e1 : (k 0 - 1).toInt = (k 0).toInt - 1 := zz_s (by rw [z1]; omega) (by rw [z1]; omega)
  simp only [ff_X1_columnOf, c_p h, p_half h, g_p4 h, Option.bind_some]
  by_cases hc : hB k ≤ nI n
  · rw [if_pos hc]
    rw [zz_le, eh, en] at hc
    have e2 : (nI n - hB k).toInt = n - ((k 0).toInt + (k 1).toInt - 2) := by rw [zz_s (by omega) (by omega), en, eh]
    have e3 : (k 0 - 1 - (nI n - hB k)).toInt = (k 0).toInt - 1 - (n - ((k 0).toInt + (k 1).toInt - 2)) := by rw [zz_s (by omega) (by omega), e1, e2]
    congr 1
    have hcO : cO (k 0).toInt (k 1).toInt n = max ((k 0).toInt - 1 - (n - ((k 0).toInt + (k 1).toInt - 2))) 0 := by unfold cO; rw [if_neg (by omega)]
    rw [zz_e, zz_mx, e3, z0, ofI (by omega) (by omega), hcO]
  · rw [if_neg hc]
    rw [zz_le, eh, en] at hc
    have hcO : cO (k 0).toInt (k 1).toInt n = min (n : Int) ((k 0).toInt - 1) := by unfold cO; rw [if_pos (by omega)]
    congr 1
    rw [zz_e, zz_mn, e1, en, ofI (by omega) (by omega), hcO]
theorem p_row (h : St M z k) (hr : Rp k) {n : Nat} (hn : (n : Int) < 2 * ((k 0).toInt + (k 1).toInt - 2)) : ff_X1_rowOf M (z + 1) (nI n) = some (Int32.ofInt (rO (k 0).toInt (k 1).toInt n)) := by
  have eh := hB_i hr
  have eh2 := hB_2 hr
  unfold Rp at hr
  have en := zz_nI n (by omega)
  have e1 : (k 0 - 1).toInt = (k 0).toInt - 1 := zz_s (by rw [z1]; omega) (by rw [z1]; omega)
  have e1' : (k 1 - 1).toInt = (k 1).toInt - 1 := zz_s (by rw [z1]; omega) (by rw [z1]; omega)
  simp only [ff_X1_rowOf, c_p h, p_half h, p_cells h, g_p4 h, g_p5 h, Option.bind_some]
  by_cases hc : hB k ≤ nI n
  · rw [if_pos hc]
    rw [zz_le, eh, en] at hc
    have e2 : (2 * hB k - nI n).toInt = 2 * ((k 0).toInt + (k 1).toInt - 2) - n := by rw [zz_s (by omega) (by omega), eh2, en]
    have hcO : rO (k 0).toInt (k 1).toInt n = min (2 * ((k 0).toInt + (k 1).toInt - 2) - n) ((k 1).toInt - 1) := by unfold rO; rw [if_neg (by omega)]
    congr 1
    rw [zz_e, zz_mn, e2, e1', ofI (by omega) (by omega), hcO]
  · rw [if_neg hc]
    rw [zz_le, eh, en] at hc
    have e2 : (nI n - (k 0 - 1)).toInt = n - ((k 0).toInt - 1) := by rw [zz_s (by omega) (by omega), e1, en]
    have hcO : rO (k 0).toInt (k 1).toInt n = max (n - ((k 0).toInt - 1)) 0 := by unfold rO; rw [if_pos (by omega)]
    congr 1
    rw [zz_e, zz_mx, e2, z0, ofI (by omega) (by omega), hcO]
theorem bO_in (hr : Rp k) {n : Nat} (hn : (n : Int) < 2 * ((k 0).toInt + (k 1).toInt - 2)) : ins k (Int32.ofInt (cO (k 0).toInt (k 1).toInt n)) (Int32.ofInt (rO (k 0).toInt (k 1).toInt n)) := by
  unfold Rp at hr
  have h1 : 0 ≤ cO (k 0).toInt (k 1).toInt n ∧ cO (k 0).toInt (k 1).toInt n < (k 0).toInt := by unfold cO; split <;> omega
  have h2 : 0 ≤ rO (k 0).toInt (k 1).toInt n ∧ rO (k 0).toInt (k 1).toInt n < (k 1).toInt := by unfold rO; split <;> omega
  unfold ins
  rw [ofI (by omega) (by omega), ofI (by omega) (by omega)]
  omega
theorem ins_congr {k k' : Nat → Int32} {x y : Int32} (h0 : k' 0 = k 0) (h1 : k' 1 = k 1) (h : ins k x y) : ins k' x y := by
  unfold ins at *
  rw [h0, h1]
  exact h
theorem v_layAll (h : St M z k) (hI : IP n k) : ∃ M', ff_X2_layEmptyCells M z = some (lc (pA k) - lc k, M') ∧ St M' z (pA k) ∧ Fz z M M' ∧ IP n (pA k) := by
  have hp := hI.1
  unfold Rp at hp
  obtain ⟨w, ew, -⟩ := nat_of (a := k 0) (by omega)
  obtain ⟨hh, eh, -⟩ := nat_of (a := k 1) (by omega)
  unfold pA
  simp only [ew, eh, Int.toNat_natCast]
  -- the border
  obtain ⟨⟨x2, M1⟩, a1, a2, a3, a4⟩ := it_inv (body := mm_u2 (ff_X2_layEmptyCells_l7 z (lc k))) (fun t (st : Int32 × mm_M) => st.1 = nI t ∧ St st.2 z (pb k t) ∧ Fz z M st.2 ∧ IP n (pb k t))
    (fun e => St e.2 z (pb k (2 * (w + hh - 2))) ∧ Fz z M e.2 ∧ IP n (pb k (2 * (w + hh - 2)))) (2 * (w + hh - 2)) (by
      rintro t ⟨x, M'⟩ ht ⟨hx, hS, hF, hP⟩
      dsimp only at hx hS hF hP
      subst hx
      have et := zz_nI t (by omega)
      have w0 : pb k t 0 = k 0 := pb_w (by omega) (by omega) (by omega) (by omega) t
      have w1 : pb k t 1 = k 1 := pb_w (by omega) (by omega) (by omega) (by omega) t
      have hbi := bO_in hI.1 (n := t) (by omega)
      obtain ⟨M2, b1, b2, b3, b4⟩ := v_layI hS hP (ins_congr w0 w1 hbi)
      refine Or.inl ⟨(nI (t + 1), M2), ?_, rfl, b2, Fz_tr hF b3, b4⟩
      have pc1 := p_col hS hP.1 (n := t) (by rw [w0, w1]; omega)
      have pr1 := p_row hS hP.1 (n := t) (by rw [w0, w1]; omega)
      have h2 := hB_2 hP.1
      rw [w0, w1] at pc1 pr1 h2
      show ff_X2_layEmptyCells_l7 z (lc k) (nI t) M' = _
      simp only [ff_X2_layEmptyCells_l7, g_s0 hS, c_p hS, p_cells hS, pc1, pr1, c_s hS, b1, Option.bind_some]
      rw [if_neg (by rw [zz_le]; omega), nI_1]) (by
      rintro ⟨x, M'⟩ ⟨hx, hS, hF, hP⟩
      dsimp only at hx hS hF hP
      subst hx
      have et := zz_nI (2 * (w + hh - 2)) (by omega)
      have w0 : pb k (2 * (w + hh - 2)) 0 = k 0 := pb_w (by omega) (by omega) (by omega) (by omega) _
      have w1 : pb k (2 * (w + hh - 2)) 1 = k 1 := pb_w (by omega) (by omega) (by omega) (by omega) _
      have h2 := hB_2 hP.1
      rw [w0, w1] at h2
      refine ⟨(nI (2 * (w + hh - 2)), M'), ?_, hS, hF, hP⟩
      show ff_X2_layEmptyCells_l7 z (lc k) (nI (2 * (w + hh - 2))) M' = _
      simp only [ff_X2_layEmptyCells_l7, g_s0 hS, c_p hS, p_cells hS, Option.bind_some]
      rw [if_pos (by rw [zz_le]; omega)]) ((0 : Int32), M) mm_fu (mm_fu_gt (by omega)) ⟨rfl, h, Fz_rf, hI⟩
  dsimp only at a2 a3 a4
  generalize hk1 : pb k (2 * (w + hh - 2)) = k1 at *
  have w0 : k1 0 = k 0 := by rw [← hk1]; exact pb_w (by omega) (by omega) (by omega) (by omega) _
  have w1 : k1 1 = k 1 := by rw [← hk1]; exact pb_w (by omega) (by omega) (by omega) (by omega) _
  -- a row of the field
  have row : ∀ (y : Nat), 1 ≤ y → y ≤ hh - 2 → ∀ (k2 : Nat → Int32) (M2 : mm_M), k2 0 = k 0 → k2 1 = k 1 → St M2 z k2 → IP n k2 → ∃ x' M3, mm_it (mm_u2 (ff_X2_layEmptyCells_l61 z (lc k) (nI y))) mm_fu ((1 : Int32), M2) = some (x', M3) ∧ St M3 z (pr k2 y (w - 2)) ∧ Fz z M2 M3 ∧ IP n (pr k2 y (w - 2)) := by
    intro y hy1 hy2 k2 M2 v0 v1 hS2 hI2
    obtain ⟨⟨x', M3⟩, c1, c2⟩ := it_inv (body := mm_u2 (ff_X2_layEmptyCells_l61 z (lc k) (nI y))) (fun t (st : Int32 × mm_M) => st.1 = nI (t + 1) ∧ St st.2 z (pr k2 y t) ∧ Fz z M2 st.2 ∧ IP n (pr k2 y t))
      (fun e => St e.2 z (pr k2 y (w - 2)) ∧ Fz z M2 e.2 ∧ IP n (pr k2 y (w - 2))) (w - 2) (by
        rintro t ⟨x, M'⟩ ht ⟨hx, hS, hF, hP⟩
        dsimp only at hx hS hF hP
        subst hx
        have et := zz_nI (t + 1) (by omega)
        have u0 : pr k2 y t 0 = k 0 := (pr_w (by omega) (by omega) (by omega) (by omega) t).trans v0
        have u1 : pr k2 y t 1 = k 1 := (pr_w (by omega) (by omega) (by omega) (by omega) t).trans v1
        have hbi : ins (pr k2 y t) (nI (t + 1)) (nI y) := ins_congr u0 u1 (ins_n ew eh (by omega) (by omega) hI.1)
        obtain ⟨M4, b1, b2, b3, b4⟩ := v_layI hS hP hbi
        refine Or.inl ⟨(nI (t + 1 + 1), M4), ?_, rfl, b2, Fz_tr hF b3, b4⟩
        show ff_X2_layEmptyCells_l61 z (lc k) (nI y) (nI (t + 1)) M' = _
        have e1 : (k 0 - 1).toInt = (k 0).toInt - 1 := zz_s (by rw [z1]; omega) (by rw [z1]; omega)
        simp only [ff_X2_layEmptyCells_l61, g_s0 hS, g_p4 hS, u0, c_s hS, b1, Option.bind_some]
        rw [if_neg (by rw [zz_le]; omega), nI_1 (t + 1)]) (by
        rintro ⟨x, M'⟩ ⟨hx, hS, hF, hP⟩
        dsimp only at hx hS hF hP
        subst hx
        have et := zz_nI (w - 2 + 1) (by omega)
        have u0 : pr k2 y (w - 2) 0 = k 0 := (pr_w (by omega) (by omega) (by omega) (by omega) _).trans v0
        refine ⟨(nI (w - 2 + 1), M'), ?_, hS, hF, hP⟩
        show ff_X2_layEmptyCells_l61 z (lc k) (nI y) (nI (w - 2 + 1)) M' = _
        have e1 : (k 0 - 1).toInt = (k 0).toInt - 1 := zz_s (by rw [z1]; omega) (by rw [z1]; omega)
        simp only [ff_X2_layEmptyCells_l61, g_s0 hS, g_p4 hS, u0, Option.bind_some]
        rw [if_pos (by rw [zz_le]; omega)]) ((1 : Int32), M2) mm_fu (mm_fu_gt (by omega)) ⟨rfl, hS2, Fz_rf, hI2⟩
    exact ⟨x', M3, c1, c2⟩
  obtain ⟨⟨x3, M5⟩, d1, d2, d3, d4⟩ := it_inv (body := mm_u2 (ff_X2_layEmptyCells_l46 z (lc k))) (fun t (st : Int32 × mm_M) => st.1 = nI (t + 1) ∧ St st.2 z (pf k1 (w - 2) t) ∧ Fz z M st.2 ∧ IP n (pf k1 (w - 2) t))
    (fun e => St e.2 z (pf k1 (w - 2) (hh - 2)) ∧ Fz z M e.2 ∧ IP n (pf k1 (w - 2) (hh - 2))) (hh - 2) (by
      rintro t ⟨x, M'⟩ ht ⟨hx, hS, hF, hP⟩
      dsimp only at hx hS hF hP
      subst hx
      have et := zz_nI (t + 1) (by omega)
      have u0 : pf k1 (w - 2) t 0 = k 0 := (pf_w (by omega) (by omega) (by omega) (by omega) t).trans w0
      have u1 : pf k1 (w - 2) t 1 = k 1 := (pf_w (by omega) (by omega) (by omega) (by omega) t).trans w1
      obtain ⟨x', M3, c1, c2, c3, c4⟩ := row (t + 1) (by omega) (by omega) _ _ u0 u1 hS hP
      refine Or.inl ⟨(nI (t + 1 + 1), M3), ?_, rfl, c2, Fz_tr hF c3, c4⟩
      show ff_X2_layEmptyCells_l46 z (lc k) (nI (t + 1)) M' = _
      have e1 : (k 1 - 1).toInt = (k 1).toInt - 1 := zz_s (by rw [z1]; omega) (by rw [z1]; omega)
      simp only [ff_X2_layEmptyCells_l46, g_s0 hS, g_p5 hS, u1, c1, Option.bind_some]
      rw [if_neg (by rw [zz_le]; omega)]
      show some (Sum.inl (nI (t + 1) + 1, M3)) = _
      rw [nI_1 (t + 1)]) (by
      rintro ⟨x, M'⟩ ⟨hx, hS, hF, hP⟩
      dsimp only at hx hS hF hP
      subst hx
      have et := zz_nI (hh - 2 + 1) (by omega)
      have u1 : pf k1 (w - 2) (hh - 2) 1 = k 1 := (pf_w (by omega) (by omega) (by omega) (by omega) _).trans w1
      refine ⟨(nI (hh - 2 + 1), M'), ?_, hS, hF, hP⟩
      show ff_X2_layEmptyCells_l46 z (lc k) (nI (hh - 2 + 1)) M' = _
      have e1 : (k 1 - 1).toInt = (k 1).toInt - 1 := zz_s (by rw [z1]; omega) (by rw [z1]; omega)
      simp only [ff_X2_layEmptyCells_l46, g_s0 hS, g_p5 hS, u1, Option.bind_some]
      rw [if_pos (by rw [zz_le]; omega)]) ((1 : Int32), M1) mm_fu (mm_fu_gt (by omega)) ⟨rfl, a2, a3, a4⟩
  dsimp only at d2 d3 d4
  refine ⟨M5, ?_, d2, d3, d4⟩
  simp only [ff_X2_layEmptyCells, c_s h, u_cells h, a1, Option.bind_some]
  show Option.bind (mm_it (mm_u2 (ff_X2_layEmptyCells_l46 z (lc k))) mm_fu ((1 : Int32), M1)) _ = _
  rw [d1, Option.bind_some]
  show Option.bind (mm_ck 2 M5 z) _ = _
  rw [c_s d2, Option.bind_some, u_cells d2, Option.bind_some]
/-- the page when a tessera has been lifted -/
def pli (k : Nat → Int32) (x y : Int32) : Nat → Int32 :=
  if (k 7 + 1) - (k 7 + 1) / 3 * 3 = 0 then upd (upd (upd (upd k (164 + (12 * y.toInt + x.toInt).toNat) (-1)) 7 (k 7 + 1)) 8 (k 8 + 1)) 9 (k 9 + k 2)
  else upd (upd (upd k (164 + (12 * y.toInt + x.toInt).toNat) (-1)) 7 (k 7 + 1)) (308 + (lx k x y).toInt.toNat) (k (308 + (lx k x y).toInt.toNat) + 1)
theorem v_lift (h : St M z k) (hI : IP n k) {x y : Int32} (hi : ins k x y) (hc : lx k x y ≠ -1) : ∃ M', ff_X2_liftToHand M z x y = some ((if (k 7 + 1) - (k 7 + 1) / 3 * 3 = 0 then 0 else 1), M') ∧ St M' z (pli k x y) ∧ Fz z M M' := by
  have hp := hI.1
  have hlx := lx_r hp hI.2.1 hi
  have hlx2 : 0 ≤ (lx k x y).toInt := by
    rw [Ne, zz_e, zm1] at hc
    omega
  obtain ⟨M1, e1, S1, F1⟩ := u_put h hp hi (-1)
  have hi' := hi
  unfold ins at hi'
  unfold Rp at hp
  have r1 : mm_gI 2 M1 z 3 = some (k 7) := by rw [g_s3 S1, upd_n (by omega)]
  obtain ⟨M2, e2, S2, F2⟩ := w_s3 S1 (k 7 + 1)
  have r2 : mm_gI 2 M2 z 3 = some (k 7 + 1) := by rw [g_s3 S2, upd_s]
  have r3 : mm_rm (k 7 + 1) 3 = some ((k 7 + 1) - (k 7 + 1) / 3 * 3) := zz_rm (by decide)
  unfold pli
  by_cases h3 : (k 7 + 1) - (k 7 + 1) / 3 * 3 = 0
  · rw [if_pos h3, if_pos h3]
    obtain ⟨M3, e3, S3, F3⟩ := t_broken S2
    rw [upd_n (by omega), upd_n (by omega), upd_n (by omega), upd_n (by omega), upd_n (by omega), upd_n (by omega)] at S3
    refine ⟨M3, ?_, S3, Fz_tr F1 (Fz_tr F2 F3)⟩
    simp only [ff_X2_liftToHand, c_s h, u_laid h hI.1 hi, e1, r1, e2, r2, r3, g_s1 S2, c_t S2, e3, Option.bind_some]
    rw [if_pos h3]
  · rw [if_neg h3, if_neg h3]
    obtain ⟨M3, e3, S3, F3⟩ := t_put S2 (a := lx k x y) hlx2 hlx.2
    rw [upd_n (j := 308 + (lx k x y).toInt.toNat) (i := 7) (by omega), upd_n (j := 308 + (lx k x y).toInt.toNat) (by omega)] at S3
    refine ⟨M3, ?_, S3, Fz_tr F1 (Fz_tr F2 F3)⟩
    simp only [ff_X2_liftToHand, c_s h, u_laid h hI.1 hi, e1, r1, e2, r2, r3, g_s1 S2, c_t S2, e3, Option.bind_some]
    rw [if_neg h3]
/-- how many empty cells want a shade -/
def wt (k : Nat → Int32) (s : Int32) : Int32 := su (fun y => su (fun x => if lx k (nI x) (nI y) = -1 ∧ wn k (nI x) (nI y) = s then 1 else 0) (k 0).toInt.toNat) (k 1).toInt.toNat
theorem v_lack (h : St M z k) (hI : IP n k) {s : Int32} (h0 : 0 ≤ s.toInt) (h1 : s.toInt ≤ 99) : ff_X2_lackOf M z s = some (mm_mx (wt k s - (k (308 + s.toInt.toNat) + rdy k s 10)) 0) := by
  have hp := hI.1
  have hp' := hp
  unfold Rp at hp'
  obtain ⟨w, ew, -⟩ := nat_of (a := k 0) (by omega)
  obtain ⟨hh, eh, -⟩ := nat_of (a := k 1) (by omega)
  unfold wt
  simp only [ew, eh, Int.toNat_natCast]
  have row : ∀ (y : Nat), y < hh → ∀ a : Int32, mm_it (mm_u2 (ff_X2_lackOf_l18 M z s (nI y))) mm_fu (a, (0 : Int32)) = some (a + su (fun x => if lx k (nI x) (nI y) = -1 ∧ wn k (nI x) (nI y) = s then 1 else 0) w, nI w) := by
    intro y hy a
    have := it_for (body := mm_u2 (ff_X2_lackOf_l18 M z s (nI y))) (fun t => (a + su (fun x => if lx k (nI x) (nI y) = -1 ∧ wn k (nI x) (nI y) = s then 1 else 0) t, nI t)) w (a + su (fun x => if lx k (nI x) (nI y) = -1 ∧ wn k (nI x) (nI y) = s then 1 else 0) w, nI w) (by
      intro t ht
      have et := zz_nI t (by omega)
      have hin := ins_n ew eh ht hy hp
      show ff_X2_lackOf_l18 M z s (nI y) _ _ = _
      simp only [ff_X2_lackOf_l18, ff_X2_lackOf_j57, g_s0 h, g_p4 h, c_s h, c_p h, u_isL h hp hin, p_want h hp hin, Option.bind_some]
      rw [if_neg (by rw [zz_le]; omega), nI_1]
      show _ = some (Sum.inl (a + (su (fun x => if lx k (nI x) (nI y) = -1 ∧ wn k (nI x) (nI y) = s then 1 else 0) t + (if lx k (nI t) (nI y) = -1 ∧ wn k (nI t) (nI y) = s then 1 else 0)), nI (t + 1)))
      by_cases c1 : lx k (nI t) (nI y) = -1
      · rw [if_pos c1, if_pos rfl]
        by_cases c2 : wn k (nI t) (nI y) = s
        · rw [if_pos c2, if_pos ⟨c1, c2⟩, Int32.add_assoc]
        · rw [if_neg c2, if_neg (fun q => c2 q.2), Int32.add_zero]
      · rw [if_neg c1, if_neg (by decide), if_neg (fun q => c1 q.1), Int32.add_zero]) (by
      have et := zz_nI w (by omega)
      show ff_X2_lackOf_l18 M z s (nI y) _ _ = _
      simp only [ff_X2_lackOf_l18, g_s0 h, g_p4 h, Option.bind_some]
      rw [if_pos (by rw [zz_le]; omega)]) mm_fu (mm_fu_gt (by omega))
    rw [show (a + su (fun x => if lx k (nI x) (nI y) = -1 ∧ wn k (nI x) (nI y) = s then (1 : Int32) else 0) 0, nI 0) = (a + 0, (0 : Int32)) from rfl, Int32.add_zero] at this
    exact this
  have := it_for (body := mm_u2 (ff_X2_lackOf_l4 M z s)) (fun t => (su (fun y => su (fun x => if lx k (nI x) (nI y) = -1 ∧ wn k (nI x) (nI y) = s then 1 else 0) w) t, nI t)) hh (su (fun y => su (fun x => if lx k (nI x) (nI y) = -1 ∧ wn k (nI x) (nI y) = s then 1 else 0) w) hh, nI hh) (by
    intro t ht
    have et := zz_nI t (by omega)
    show ff_X2_lackOf_l4 M z s _ _ = _
    simp only [ff_X2_lackOf_l4, g_s0 h, g_p5 h, Option.bind_some]
    rw [if_neg (by rw [zz_le]; omega), row t ht, Option.bind_some]
    show some (Sum.inl (_, nI t + 1)) = _
    rw [nI_1]
    rfl) (by
    have et := zz_nI hh (by omega)
    show ff_X2_lackOf_l4 M z s _ _ = _
    simp only [ff_X2_lackOf_l4, g_s0 h, g_p5 h, Option.bind_some]
    rw [if_pos (by rw [zz_le]; omega)]) mm_fu (mm_fu_gt (by omega))
  rw [show (su (fun y => su (fun x => if lx k (nI x) (nI y) = -1 ∧ wn k (nI x) (nI y) = s then (1 : Int32) else 0) w) 0, nI 0) = ((0 : Int32), (0 : Int32)) from rfl] at this
  simp only [ff_X2_lackOf, this, Option.bind_some]
  show Option.bind (mm_gR 2 M z 1) _ = _
  simp only [g_s1 h, c_t h, t_ready h hI.2.2.1 h0 h1, Option.bind_some]
end LA
