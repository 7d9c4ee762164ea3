/-! trying, going back, texts, patterns -/
section WU
variable {n : Int} {b u tl : Nat} {M : mm_M} {k m sp sv tx rd : Nat → Int32} {pg : Nat → Nat → Int32} {rc : Int32}
theorem Ci_trial {M' : mm_M} {kt : Nat → Int32} (h : Ci M b k u pg tl tx) (hs : St M' (b + 29) kt) (hF : Fz (b + 29) M M') : Ci M' b k u pg tl tx ∧ Fb b M M' := by
  obtain ⟨h1, h2, -, ⟨sa, h4⟩, h5⟩ := h
  exact ⟨⟨by rw [hF _ (by omega)]; exact h1, St_fz h2 hF (by omega), ⟨kt, hs⟩, ⟨sa, Hi_kept h4 (fun q q1 q2 => hF q (by omega))⟩, Tx_kept h5 (hF _ (by omega)) (hF _ (by omega))⟩, fun a ha => hF a (by omega)⟩
theorem s_ifLaid (hn : 0 ≤ n ∧ n ≤ 1000) (hC : Ci M b k u pg tl tx) (hD : Md M (b + 201) m sp sv tx rd u tl rc) (hK : KR n k m u pg sv tl) : SS n b M (fun M => ff_X6_ifLaid M b) (fun M => ff_X7_ifLaid M (b + 201)) := by
  have R := hK.1
  have hI := hK.2.1
  -- the class
  obtain ⟨kt, ht⟩ := hC.2.2.1
  obtain ⟨M1, a1, a2, a3⟩ := v_copy ht hC.st (show b + 1 + 28 ≤ b + 29 ∨ b + 29 + 28 ≤ b + 1 by omega)
  obtain ⟨c1, f1⟩ := Ci_trial hC a2 a3
  obtain ⟨M2, d1, d2, d3, d4⟩ := v_layAll a2 hI
  obtain ⟨c2, f2⟩ := Ci_trial c1 d2 d3
  have e6 : ff_X6_ifLaid M b = some (su (fun y => su (fun x => df (pA k) (nI x) (nI y)) (pA k 0).toInt.toNat) (pA k 1).toInt.toNat, M2) := by
    simp only [ff_X6_ifLaid, i_1 hC, i_0 hC, c_s ht, a1, i_1 c1, c_s a2, d1, mm_u2, i_1 c2, c_s d2, u_sumD d2 d4.1, Option.bind_some]
  -- the reference
  have D2 : Md M2 (b + 201) m sp sv tx rd u tl rc := Md_kept hD (fun a q1 q2 => Fb_tr f1 f2 a (by omega))
  obtain ⟨g, g1, g2, g3⟩ := brings (p := 0) (q := 0) D2.2.1 D2.2.2.1 (show b + 201 + 1 ≠ b + 201 + 2 by omega) (by omega) (by omega) (by omega) (by omega) (P := 0) (Q := 0) rfl rfl
  have D3 := d_spA D2 g
  obtain ⟨m', l1, l2, -⟩ := m_laysAll D3.mo R hI
  have D4 := Md_wm D3 m'
  obtain ⟨x, x1, -⟩ := m_diffs D4.mo l2 d4 0
  rw [if_pos rfl] at x1
  obtain ⟨g', h1, h2, h3⟩ := brings (p := 0) (q := 0) D4.2.2.1 D4.2.1 (show b + 201 + 2 ≠ b + 201 + 1 by omega) (by omega) (by omega) (by omega) (by omega) (P := 0) (Q := 0) rfl rfl
  have D5 := Md_wm D4 g'
  refine ⟨_, M2, _, e6, c_m D2.mo, ?_, k, u, pg, g', _, sv, tx, rd, tl, rc, ?_, D5, KR_now hK (by omega) (PR_ext R hI.1 (fun j hj => ?_)) (IP_mono hI (by omega))⟩
  · show ff_X7_ifLaid M2 (b + 201) = _
    simp only [ff_X7_ifLaid, n_m D2.mo, d_r1 D2, g1, c_m D3.mo, l1, mm_u2, c_m D4.mo, x1, d_r1 D4, n_m D4.mo, h1, Option.bind_some]
    rfl
  · exact Ci_kept c2 (fun a q1 q2 => (Fy_tr (Fy_tr (Fy_up (y := b + 201) (a := b + 201 + 2) (by omega) (by omega)) (Fy_wm _ _ m')) (Fy_wm _ _ g')) a (by omega))
  · have := h2 j hj
    have := g2 j hj
    simp only [Nat.zero_add] at *
    rw [h2 j hj, g2 j hj]
theorem s_undo (hn : 0 ≤ n ∧ n ≤ 1000) (hC : Ci M b k u pg tl tx) (hD : Md M (b + 201) m sp sv tx rd u tl rc) (hK : KR n k m u pg sv tl) : SS n b M (fun M => ff_X6_undo M b) (fun M => ff_X7_undo M (b + 201)) := by
  have h := hC.st
  have hu := hK.2.2.1
  have eu := zz_nI u (by omega)
  by_cases h0 : u = 0
  · subst h0
    refine fin_r hC hD hK (r := -2) ?_ (d_undo0 hD)
    simp (decide := true) only [ff_X6_undo, i_2 hC, i_h hC, i_u hC, Option.bind_some, if_true]
  · obtain ⟨q1, q2, ⟨kt, q3⟩, ⟨sa, q4⟩, q5⟩ := id hC
    obtain ⟨M1, a1, a2, a3, a4⟩ := h_rest q4 (by omega) hu h (by omega)
    have c1 : Ci M1 b (pg (u - 1)) (u - 1) pg tl tx := ⟨by rw [a4 _ (by omega) (by omega)]; exact q1, a3, ⟨kt, St_kept q3 (fun q w1 w2 => a4 q (by omega) (by omega))⟩, ⟨sa, a2⟩, Tx_kept q5 (a4 _ (by omega) (by omega)) (a4 _ (by omega) (by omega))⟩
    have f1 : Fb b M M1 := fun a ha => a4 a (by omega) (by omega)
    have D1 : Md M1 (b + 201) m sp sv tx rd u tl rc := Md_kept hD (fun a q1 q2 => f1 a (by omega))
    obtain ⟨M2, m', d1, d2, d3, d4⟩ := d_undo D1 hu (by omega)
    have hk := hK.2.2.2.2 (u - 1) (by omega)
    refine ⟨nI (u - 1), M1, M2, ?_, c_m D1.mo, d1, pg (u - 1), u - 1, pg, m', sp, sv, tx, rd, tl, rc, Ci_kept c1 (fun a w1 w2 => d3 a (by omega)), d2, PR_ext hk.1 hk.2.1 d4, IP_mono hk.2 (by omega), by omega, hK.2.2.2.1, fun i hi => ⟨(hK.2.2.2.2 i (by omega)).1, IP_mono (hK.2.2.2.2 i (by omega)).2 (by omega)⟩⟩
    show ff_X6_undo M b = _
    simp only [ff_X6_undo, i_2 hC, i_0 hC, i_h hC, i_u hC, a1, i_2 c1, i_h c1, i_u c1, Option.bind_some]
    rw [if_neg (by rw [zz_e, z0]; omega)]
theorem s_type (hn : 0 ≤ n ∧ n ≤ 1000) (hC : Ci M b k u pg tl tx) (hD : Md M (b + 201) m sp sv tx rd u tl rc) (hK : KR n k m u pg sv tl) (x : Int32) : SS n b M (fun M => ff_X6_type M b x) (fun M => ff_X7_type M (b + 201) x) := by
  have ht := hK.2.2.2.1
  have et := zz_nI tl (by omega)
  by_cases hx : (32 : Int32).toInt ≤ x.toInt ∧ x.toInt ≤ (126 : Int32).toInt
  · by_cases h8 : tl < 80
    · obtain ⟨q1, q2, q3, ⟨sa, q4⟩, q5⟩ := id hC
      obtain ⟨M1, a1, a2, a3⟩ := k_append q5 h8 (c := x) hx.1 hx.2
      obtain ⟨kt, q3⟩ := q3
      have c1 : Ci M1 b k u pg (tl + 1) (upd tx tl x) := ⟨by rw [a3 _ (by omega) (by omega)]; exact q1, St_kept q2 (fun q w1 w2 => a3 q (by omega) (by omega)), ⟨kt, St_kept q3 (fun q w1 w2 => a3 q (by omega) (by omega))⟩, ⟨sa, Hi_kept q4 (fun q w1 w2 => a3 q (by omega) (by omega))⟩, a2⟩
      have f1 : Fb b M M1 := fun a ha => a3 a (by omega) (by omega)
      have D1 : Md M1 (b + 201) m sp sv tx rd u tl rc := Md_kept hD (fun a q1 q2 => f1 a (by omega))
      obtain ⟨M2, d1, d2, d3⟩ := d_type D1 h8 x hx.1 hx.2
      refine ⟨nI (tl + 1), M1, M2, ?_, c_m D1.mo, d1, k, u, pg, m, sp, sv, upd tx tl x, rd, tl + 1, rc, Ci_kept c1 (fun a w1 w2 => d3 a (by omega)), d2, hK.1, IP_mono hK.2.1 (by omega), hK.2.2.1, by omega, fun i hi => ⟨(hK.2.2.2.2 i hi).1, IP_mono (hK.2.2.2.2 i hi).2 (by omega)⟩⟩
      show ff_X6_type M b x = _
      simp (decide := true) only [ff_X6_type, t_within, if_pos hx, i_3 hC, k_len q5, k_ck q5, a1, i_3 c1, k_len a2, Option.bind_some, if_false]
      rw [if_pos (by rw [zz_lt, z80]; omega)]
    · refine fin_r hC hD hK (r := -3) ?_ ?_
      · simp (decide := true) only [ff_X6_type, t_within, if_pos hx, i_3 hC, k_len hC.2.2.2.2, Option.bind_some, if_false]
        rw [if_neg (by rw [zz_lt, z80]; omega)]
      · simp (decide := true) only [ff_X7_type, m_in, if_pos hx, d_tl hD, Option.bind_some, if_false]
        rw [if_pos (by rw [zz_e, z80]; omega)]
  · refine fin_r hC hD hK (r := -1) ?_ ?_
    · simp (decide := true) only [ff_X6_type, t_within, if_neg hx, Option.bind_some, if_true]
    · simp (decide := true) only [ff_X7_type, m_in, if_neg hx, Option.bind_some, if_true]
theorem s_clearText (hn : 0 ≤ n ∧ n ≤ 1000) (hC : Ci M b k u pg tl tx) (hD : Md M (b + 201) m sp sv tx rd u tl rc) (hK : KR n k m u pg sv tl) : SS n b M (fun M => ff_X6_clearText M b) (fun M => ff_X7_clearText M (b + 201)) := by
  obtain ⟨q1, q2, ⟨kt, q3⟩, ⟨sa, q4⟩, q5⟩ := id hC
  obtain ⟨w1, g, w2, w3⟩ := id q5
  have a1 : mm_pI 5 M (b + 199) 1 0 = some (mm_up M (b + 199) (.inl (5, [.ref (b + 199 + 1), .int 0]))) := wI w1 (by simp)
  have a3 : ∀ q, q ≠ b + 199 → mm_up M (b + 199) (.inl (5, [.ref (b + 199 + 1), .int 0])) q = M q := fun q hq => mm_up_n _ _ hq
  have a2 : Tx (mm_up M (b + 199) (.inl (5, [.ref (b + 199 + 1), .int 0]))) (b + 199) 0 tx := ⟨mm_up_s _ _ _, g, by rw [a3 _ (by omega)]; exact w2, fun j hj => by omega⟩
  generalize mm_up M (b + 199) (.inl (5, [.ref (b + 199 + 1), .int 0])) = M1 at a1 a2 a3
  have c1 : Ci M1 b k u pg 0 tx := ⟨by rw [a3 _ (by omega)]; exact q1, St_kept q2 (fun q w1 w2 => a3 q (by omega)), ⟨kt, St_kept q3 (fun q w1 w2 => a3 q (by omega))⟩, ⟨sa, Hi_kept q4 (fun q w1 w2 => a3 q (by omega))⟩, a2⟩
  have f1 : Fb b M M1 := fun a ha => a3 a (by omega)
  have D1 : Md M1 (b + 201) m sp sv tx rd u tl rc := Md_kept hD (fun a q1 q2 => f1 a (by omega))
  obtain ⟨M2, d1, d2, d3⟩ := d_clear D1
  refine ⟨nI tl, M1, M2, ?_, c_m D1.mo, d1, k, u, pg, m, sp, sv, tx, rd, 0, rc, Ci_kept c1 (fun a w1 w2 => d3 a (by omega)), d2, hK.1, IP_mono hK.2.1 (by omega), hK.2.2.1, by omega, fun i hi => ⟨(hK.2.2.2.2 i hi).1, IP_mono (hK.2.2.2.2 i hi).2 (by omega)⟩⟩
  show ff_X6_clearText M b = _
  simp only [ff_X6_clearText, i_3 hC, k_len q5, a1, Option.bind_some]
theorem s_fault (hn : 0 ≤ n ∧ n ≤ 1000) (hC : Ci M b k u pg tl tx) (hD : Md M (b + 201) m sp sv tx rd u tl rc) (hK : KR n k m u pg sv tl) : ∃ r M2, ff_X6_fault M b = some r ∧ ff_X7_fault M (b + 201) = some (r, M2) ∧ IV (n + 1) b M2 := by
  have ht := hK.2.2.2.1
  have q5 := hC.2.2.2.2
  obtain ⟨r, r1, r2⟩ := k_fault q5 ht
  obtain ⟨r', M2, rd', rc', d1, d2, d3, d4, -⟩ := d_fault hD ht
  have e : r' = r := FR_uniq d4 r2
  subst e
  refine ⟨if r' = -1 then -4 else r', M2, ?_, ?_, k, u, pg, m, sp, sv, tx, rd', tl, rc', Ci_kept hC (fun a w1 w2 => d3 a (by omega)), d2, KR_mono hK (by omega)⟩
  · simp only [ff_X6_fault, i_3 hC, i_x hC, r1, Option.bind_some]
    split <;> rfl
  · simp only [ff_X7_fault, c_m hD.mo, d1, mm_u2, Option.bind_some]
    split <;> rfl
theorem s_pattern (hn : 0 ≤ n ∧ n ≤ 1000) (hC : Ci M b k u pg tl tx) (hD : Md M (b + 201) m sp sv tx rd u tl rc) (hK : KR n k m u pg sv tl) : SS n b M (fun M => ff_X6_pattern M b) (fun M => ff_X7_pattern M (b + 201)) := by
  have h := hC.st
  have R := hK.1
  have hI := hK.2.1
  have ht := hK.2.2.2.1
  have q5 := hC.2.2.2.2
  obtain ⟨r, r1, r2⟩ := k_fault q5 ht
  have refuse : ff_X6_pattern M b = some (-2, M) → (∀ M2 rd' rc', ff_X7_faultNow M (b + 201) = some (r, M2) → Md M2 (b + 201) m sp sv tx rd' u tl rc' → ff_X7_pattern M (b + 201) = some (-2, M2)) → SS n b M (fun M => ff_X6_pattern M b) (fun M => ff_X7_pattern M (b + 201)) := by
    intro h6 h7
    obtain ⟨r', M2, rd', rc', d1, d2, d3, d4, -⟩ := d_fault hD ht
    have e : r' = r := FR_uniq d4 r2
    subst e
    exact ⟨-2, M, M2, h6, c_m hD.mo, h7 M2 rd' rc' d1 d2, k, u, pg, m, sp, sv, tx, rd', tl, rc', Ci_kept hC (fun a w1 w2 => d3 a (by omega)), d2, KR_mono hK (by omega)⟩
  by_cases hr : r = -1
  · by_cases hl : lc k ≤ 0
    · -- accepted
      obtain ⟨Mk, k1, k2, k3⟩ := c_keep hC hK.2.2.1
      -- what the text says, from the reference's reading at once
      obtain ⟨r0, M0, rd0, rc0, x1, x2, x3, x4, x5⟩ := d_fault hD ht
      have e0 : r0 = r := FR_uniq x4 r2
      obtain ⟨d, e, hau, hd, -, -⟩ := x5 (e0.trans hr)
      obtain ⟨ad, ae⟩ := au_r hau
      have hv := vv_r hau
      have en := zz_nI (e + 1) (by omega)
      obtain ⟨s0, p1, p2⟩ := k2.st.2.2.2.1
      obtain ⟨s, t1, t2⟩ := k_read k2.2.2.2.2 ht hau hd (q := b + 1 + 3) (by omega) (by omega) p1
      obtain ⟨y1, y2⟩ := y_p k2.st (v := fun j => s (j - 12)) (g := s) (fun j hj => by rw [Nat.add_sub_cancel_left])
      obtain ⟨c2, f2⟩ := Ci_now k2 y1 y2
      obtain ⟨M1, w1, w2, w3⟩ := w_p2 y1 (nI (e + 1))
      obtain ⟨c3, f3⟩ := Ci_now c2 w2 w3
      have e6 : ff_X6_pattern M b = some (nI (e + 1), M1) := by
        have hg := g_p2 w2
        rw [upd_s] at hg
        simp (decide := true) only [ff_X6_pattern, ff_X1_takePattern, i_3 hC, i_x hC, r1, if_pos hr, i_0 hC, c_s h, u_cells h, if_pos hl, i_2 hC, i_h hC, k1, i_0 k2, g_s0 k2.st, i_3 k2, i_x k2, c_p k2.st, g_p1 k2.st, t1, mm_u2, w1, hg, Option.bind_some]
      have fM : Fb b M M1 := Fb_tr (Fb_tr k3 f2) f3
      have D1 : Md M1 (b + 201) m sp sv tx rd u tl rc := Md_kept hD (fun a q1 q2 => fM a (by omega))
      obtain ⟨r', M2, rd', rc', d1, d2, d3, d4, d5⟩ := d_fault D1 ht
      have er : r' = -1 := (FR_uniq d4 r2).trans hr
      subst er
      obtain ⟨d', e', au2, hd', erc, hrd⟩ := d5 rfl
      have hee : (d', e') = (d, e) := Option.some.inj (au2.symm.trans hau)
      obtain ⟨rfl, rfl⟩ : d' = d ∧ e' = e := by
        constructor
        · exact congrArg Prod.fst hee
        · exact congrArg Prod.snd hee
      obtain ⟨M3, sv', g1, g2, g3, g4⟩ := d_keep d2 hK.2.2.1
      have s4 := s_m g2.mo (i := 4) (n := 4) rfl (by omega) rc'
      have D4 := Md_wm g2 (upd m 4 rc')
      have ern : nI 0 + rc' = nI (e' + 1) := by rw [erc]; exact Int32.zero_add _
      have D4' : Md (wm M3 (b + 201) (upd m 4 rc')) (b + 201) (upd m 4 rc') sp sv' tx rd' (uk u) tl (nI 0 + rc') := by
        have : nI 0 + rc' = rc' := Int32.zero_add _
        rw [this]
        exact D4
      have pp := m_pat8 D4' (n := e' + 1) (by omega) ern
      rw [wm_wm] at pp
      have D5 := Md_wm g2 (cp2 12 (fun j => if j < e' + 1 then rd' j else 0) (upd m 4 rc') 8)
      have e7 : ff_X7_pattern M1 (b + 201) = some (nI (e' + 1), wm M3 (b + 201) (cp2 12 (fun j => if j < e' + 1 then rd' j else 0) (upd m 4 rc') 8)) := by
        simp (decide := true) only [ff_X7_pattern, c_m D1.mo, d1, mm_u2, c_m d2.mo, m_laidK d2.mo hK, if_pos hl, g1, n_m g2.mo, d_rc g2, s4, Option.bind_some, if_true]
        rw [show mm_it (mm_u2 (ff_X7_pattern_l34 (b + 201))) mm_fu ((0 : Int32), wm M3 (b + 201) (upd m 4 rc')) = _ from pp, Option.bind_some]
        show Option.bind (mm_gI 7 (wm M3 (b + 201) _) (b + 201) 7) _ = _
        rw [d_rc D5, Option.bind_some, erc]
      have hpp := hI.1
      unfold Rp at hpp
      have w : ∀ j, (j < 12 ∨ 20 ≤ j) → j ≠ 4 → upd (fun j => if 12 ≤ j ∧ j < 20 then s (j - 12) else k j) 4 (nI (e' + 1)) j = k j := fun j hj h4 => by
        rw [upd_n h4]
        show (if 12 ≤ j ∧ j < 20 then s (j - 12) else k j) = k j
        rw [if_neg (by omega)]
      have wp : ∀ j, j < 8 → upd (fun j => if 12 ≤ j ∧ j < 20 then s (j - 12) else k j) 4 (nI (e' + 1)) (12 + j) = s j := fun j hj => by
        rw [upd_n (by omega)]
        show (if 12 ≤ 12 + j ∧ 12 + j < 20 then s (12 + j - 12) else k (12 + j)) = s j
        rw [if_pos (by omega), Nat.add_sub_cancel_left]
      have w4 : upd (fun j => if 12 ≤ j ∧ j < 20 then s (j - 12) else k j) 4 (nI (e' + 1)) 4 = nI (e' + 1) := upd_s
      have v : ∀ j, (j < 12 ∨ 20 ≤ j) → j ≠ 4 → cp2 12 (fun j => if j < e' + 1 then rd' j else 0) (upd m 4 rc') 8 j = m j := fun j hj h4 => by
        rw [cp2_o _ _ _ (by omega), upd_n h4]
      generalize upd (fun j => if 12 ≤ j ∧ j < 20 then s (j - 12) else k j) 4 (nI (e' + 1)) = kk at *
      have hPR : PR kk (cp2 12 (fun j => if j < e' + 1 then rd' j else 0) (upd m 4 rc') 8) := by
        refine ⟨fun j hj => ?_, fun j h1 h2 => by rw [v j (by omega) (by omega), w j (by omega) (by omega), R.hi j h1 h2], fun j hj => ?_, fun x y hx hy => ?_, fun x y hx hy => ?_⟩
        · by_cases h4 : j = 4
          · rw [h4, w4, cp2_o _ _ _ (by omega), upd_s, erc]
          · rw [v j (by omega) h4, w j (by omega) h4, R.lo j hj]
        · rw [w4, en] at hj
          rw [cp2_i 12 (fun j => if j < e' + 1 then rd' j else 0) _ (show j < 8 by omega), wp j (by omega), if_pos (by omega), hrd j (by omega), t2 j (by omega)]
        · rw [w 0 (by omega) (by omega)] at hx ⊢
          rw [w 1 (by omega) (by omega)] at hy
          have q := cx_lt (w := (k 0).toInt.toNat) (h := (k 1).toInt.toNat) (x := x) (y := y) (by omega) (by omega) (by omega) (by omega)
          rw [v _ (by omega) (by omega), w _ (by omega) (by omega), R.wt x y hx hy]
        · rw [w 0 (by omega) (by omega)] at hx ⊢
          rw [w 1 (by omega) (by omega)] at hy
          have q := cx_lt (w := (k 0).toInt.toNat) (h := (k 1).toInt.toNat) (x := x) (y := y) (by omega) (by omega) (by omega) (by omega)
          rw [v _ (by omega) (by omega), w _ (by omega) (by omega), R.ld x y hx hy]
      have hIP : IP (n + 1) kk := by
        refine IP_mono (n := n) ⟨?_, ?_, ?_, fun q hq => by rw [w _ (by omega) (by omega)]; exact hI.2.2.2 q hq⟩ (by omega)
        · unfold Rp
          rw [w 0 (by omega) (by omega), w 1 (by omega) (by omega), w 5 (by omega) (by omega), w4, en]
          exact ⟨hpp.1, hpp.2.1, by omega, hpp.2.2.2⟩
        · have hlr := hI.2.1
          refine ⟨fun j hj => by rw [w _ (by omega) (by omega)]; exact hlr.1 j hj, fun x y hx hy hn => ?_, fun j hj => by rw [w _ (by omega) (by omega)]; exact hlr.2.2.1 j hj, fun j hj => ?_⟩
          · rw [w 0 (by omega) (by omega), w 1 (by omega) (by omega)] at hn
            rw [w _ (by omega) (by omega)]
            exact hlr.2.1 x y hx hy hn
          · rw [w4, en] at hj
            rw [wp j (by omega), t2 j (by omega)]
            by_cases hje : j < e'
            · exact hv.1 j hje
            · rw [show j = e' by omega]
              have := hv.2 hd
              exact ⟨this.1, this.2.1⟩
        · exact Rs_congr hI.2.2.1 (w 2 (by omega) (by omega)) (w 3 (by omega) (by omega)) (w 6 (by omega) (by omega)) (fun j h1 h2 => w j (by omega) (by omega))
      exact ⟨nI (e' + 1), M1, _, e6, c_m D1.mo, e7, kk, uk u, pgk u k pg, _, sp, sv', tx, rd', tl, rc', Ci_kept c3 (fun a w1 w2 => (Fy_tr (Fy_tr d3 g3) (Fy_wm _ _ _)) a (by omega)), D5, KR_now (KR_keep hK g4) (by omega) hPR hIP⟩
    · refine refuse ?_ (fun M2 rd' rc' d1 d2 => ?_)
      · simp (decide := true) only [ff_X6_pattern, i_3 hC, i_x hC, r1, if_pos hr, i_0 hC, c_s h, u_cells h, if_neg hl, Option.bind_some]
      · simp (decide := true) only [ff_X7_pattern, c_m hD.mo, d1, mm_u2, if_pos hr, c_m d2.mo, m_laidK d2.mo hK, if_neg hl, Option.bind_some]
  · refine refuse ?_ (fun M2 rd' rc' d1 d2 => ?_)
    · simp (decide := true) only [ff_X6_pattern, i_3 hC, i_x hC, r1, if_neg hr, Option.bind_some]
    · simp (decide := true) only [ff_X7_pattern, c_m hD.mo, d1, mm_u2, if_neg hr, Option.bind_some]
end WU
