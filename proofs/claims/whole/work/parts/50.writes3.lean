/-! laying, lifting, trying, going back, texts, patterns -/
section WT
variable {n : Int} {b u tl : Nat} {M : mm_M} {k m sp sv tx rd : Nat → Int32} {pg : Nat → Nat → Int32} {rc : Int32}
theorem s_lay (hn : 0 ≤ n ∧ n ≤ 1000) (hC : Ci M b k u pg tl tx) (hD : Md M (b + 201) m sp sv tx rd u tl rc) (hK : KR n k m u pg sv tl) (x y : Int32) : SS n b M (fun M => ff_X6_lay M b x y) (fun M => ff_X7_lay M (b + 201) x y) := by
  have h := hC.st
  have ho := hD.mo
  have R := hK.1
  have hI := hK.2.1
  have hp := hI.1
  have hp' := hp
  unfold Rp at hp'
  have hpm := PR_Rp R hp
  by_cases hin : ins k x y
  · have e6 := p_has1 h hin
    have e7 := fun (M1 : mm_M) (h1 : Mo M1 (b + 201) m) => (m_cell h1 hpm x y).1 ((in_km R).mpr hin)
    have l6 := u_isL h hp hin
    obtain ⟨f6, f7, f8, f9⟩ := u_near h hp hI.2.1 hI.2.2.1 hin
    have hw := wn_r hp hI.2.1 hin
    obtain ⟨a, c, rfl, rfl, ha, hc⟩ := ins_nat hin
    have ei := cidx R hp ha hc
    have g7 : ∀ M1, Mo M1 (b + 201) m → ff_X7_nearestTo M1 (b + 201) (wn k (nI a) (nI c)) = some (Int32.ofInt (nf k (wn k (nI a) (nI c)).toInt)) := by
      intro M1 h1
      have := (m_near h1 (PR_Rs R hI.2.2.1) hw.1 hw.2).1
      rw [PR_nf R hI.2.2.1] at this
      exact this
    have ld := fun (M1 : mm_M) (h1 : Mo M1 (b + 201) m) => m_diff h1 R hI ha hc
    by_cases hl : lx k (nI a) (nI c) = -1
    · by_cases hf : nf k (wn k (nI a) (nI c)).toInt = -1
      · have e1 : Int32.ofInt (nf k (wn k (nI a) (nI c)).toInt) = -1 := by rw [hf]; rfl
        refine fin_r hC hD hK (r := -2) ?_ ?_
        · simp (decide := true) only [ff_X6_lay, i_0 hC, g_s0 h, c_p h, c_s h, e6, l6, if_pos hl, f6, if_pos e1, Option.bind_some, if_true, if_false]
        · simp (decide := true) only [ff_X7_lay, c_m ho, e7 M ho, n_m ho, q0 ho, ei, (ld M ho).2.1, (ld M ho).1, if_pos hl, g7 M ho, if_pos e1, Option.bind_some, if_true, if_false]
      · have e1 : ¬ Int32.ofInt (nf k (wn k (nI a) (nI c)).toInt) = -1 := ofI_n f7 f8 hf
        have epL : pL k (nI a) (nI c) = upd (pB k (Int32.ofInt (nf k (wn k (nI a) (nI c)).toInt))) (164 + (12 * c + a)) (Int32.ofInt (nf k (wn k (nI a) (nI c)).toInt)) := by
          unfold pL
          rw [if_pos hl, if_neg hf, zz_nI a (by omega), zz_nI c (by omega)]
          congr 2
        have elx : lx (pL k (nI a) (nI c)) (nI a) (nI c) = Int32.ofInt (nf k (wn k (nI a) (nI c)).toInt) := by
          rw [lx_nn _ (by omega) (by omega), epL, upd_s]
        refine fin_w hC hD hK (r := Int32.ofInt (nf k (wn k (nI a) (nI c)).toInt)) (k' := pL k (nI a) (nI c)) (fun Mk hk hCk => ?_) (fun M1 hD1 Mk sv' hk hDk => ?_) (IP_mono (IP_pL hI hin f9 f8) (by omega))
        · obtain ⟨M1, a1, a2, a3, a4⟩ := v_layI hCk.st hI hin
          refine ⟨M1, ?_, a2, a3⟩
          obtain ⟨c1, -⟩ := Ci_now hCk a2 a3
          have l7 := u_laid a2 a4.1 (ins_congr (pL_w (by omega) (by omega) (by omega) (by omega)) (pL_w (by omega) (by omega) (by omega) (by omega)) hin)
          rw [elx] at l7
          simp (decide := true) only [ff_X6_lay, i_0 hC, g_s0 h, c_p h, c_s h, e6, l6, if_pos hl, f6, if_neg e1, i_2 hC, i_h hC, hk, i_0 hCk, c_s hCk.st, a1, i_0 c1, c_s a2, l7, Option.bind_some, if_true, if_false]
        · obtain ⟨m', g1, g2⟩ := m_lays hDk.mo R hI ha hc
          rw [if_neg hf, ← epL] at g2
          refine ⟨m', ?_, g2⟩
          have ho1 := hD1.mo
          simp (decide := true) only [ff_X7_lay, c_m ho1, e7 M1 ho1, n_m ho1, q0 ho1, ei, (ld M1 ho1).2.1, (ld M1 ho1).1, if_pos hl, g7 M1 ho1, if_neg e1, hk, c_m hDk.mo, g1, mm_u2, Option.bind_some, if_true, if_false]
    · refine fin_r hC hD hK (r := -2) ?_ ?_
      · simp (decide := true) only [ff_X6_lay, i_0 hC, g_s0 h, c_p h, c_s h, e6, l6, if_neg hl, Option.bind_some, if_true, if_false]
      · simp (decide := true) only [ff_X7_lay, c_m ho, e7 M ho, n_m ho, q0 ho, ei, (ld M ho).2.1, if_neg hl, Option.bind_some, if_true, if_false]
  · have e6 := p_has0 h hin
    have e7 := (m_cell ho hpm x y).2 (fun q => hin ((in_km R).mp q))
    refine fin_r hC hD hK (r := -1) ?_ ?_
    · simp (decide := true) only [ff_X6_lay, i_0 hC, g_s0 h, c_p h, e6, Option.bind_some, if_true, if_false]
    · simp (decide := true) only [ff_X7_lay, c_m ho, e7, Option.bind_some, if_true, if_false]
theorem s_layAll (hn : 0 ≤ n ∧ n ≤ 1000) (hC : Ci M b k u pg tl tx) (hD : Md M (b + 201) m sp sv tx rd u tl rc) (hK : KR n k m u pg sv tl) : SS n b M (fun M => ff_X6_layAll M b) (fun M => ff_X7_layAll M (b + 201)) := by
  have R := hK.1
  have hI := hK.2.1
  obtain ⟨-, -, -, -, IA⟩ := v_layAll hC.st hI
  refine fin_w hC hD hK (r := lc (pA k) - lc k) (k' := pA k) (fun Mk hk hCk => ?_) (fun M1 hD1 Mk sv' hk hDk => ?_) (IP_mono IA (by omega))
  · obtain ⟨M1, a1, a2, a3, a4⟩ := v_layAll hCk.st hI
    refine ⟨M1, ?_, a2, a3⟩
    simp only [ff_X6_layAll, i_2 hC, i_0 hC, i_h hC, hk, i_0 hCk, c_s hCk.st, a1, mm_u2, Option.bind_some]
  · obtain ⟨m', g1, g2, -⟩ := m_laysAll hDk.mo R hI
    refine ⟨m', ?_, g2⟩
    simp only [ff_X7_layAll, c_m hD1.mo, hk, c_m hDk.mo, g1, mm_u2, Option.bind_some]
theorem s_lift (hn : 0 ≤ n ∧ n ≤ 1000) (hC : Ci M b k u pg tl tx) (hD : Md M (b + 201) m sp sv tx rd u tl rc) (hK : KR n k m u pg sv tl) (x y : Int32) : SS n b M (fun M => ff_X6_lift M b x y) (fun M => ff_X7_lift M (b + 201) x y) := by
  have h := hC.st
  have ho := hD.mo
  have R := hK.1
  have hI := hK.2.1
  have hp := hI.1
  have hp' := hp
  unfold Rp at hp'
  have hpm := PR_Rp R hp
  by_cases hin : ins k x y
  · have e6 := p_has1 h hin
    have e7 := fun (M1 : mm_M) (h1 : Mo M1 (b + 201) m) => (m_cell h1 hpm x y).1 ((in_km R).mpr hin)
    have l6 := u_isL h hp hin
    have hlr := lx_r hp hI.2.1 hin
    obtain ⟨a, c, rfl, rfl, ha, hc⟩ := ins_nat hin
    have ei := cidx R hp ha hc
    have ea := zz_nI a (by omega)
    have ec := zz_nI c (by omega)
    have e12 : (12 * (nI c).toInt + (nI a).toInt).toNat = 12 * c + a := by omega
    have ld := fun (M1 : mm_M) (h1 : Mo M1 (b + 201) m) => (m_diff h1 R hI ha hc).2.1
    by_cases hl : lx k (nI a) (nI c) = -1
    · refine fin_r hC hD hK (r := -2) ?_ ?_
      · simp (decide := true) only [ff_X6_lift, i_0 hC, g_s0 h, c_p h, c_s h, e6, l6, if_pos hl, Option.bind_some, if_true, if_false]
      · simp (decide := true) only [ff_X7_lift, c_m ho, e7 M ho, n_m ho, q0 ho, ei, ld M ho, if_pos hl, Option.bind_some, if_true, if_false]
    · have hl0 : 0 ≤ (lx k (nI a) (nI c)).toInt := by
        rw [zz_e, zm1] at hl
        omega
      obtain ⟨s, s1, s2⟩ := nat_of hl0
      have hs : s < 100 := by omega
      have es := zz_nI s (by omega)
      have hlt := cx_lt (w := (k 0).toInt.toNat) (h := (k 1).toInt.toNat) (x := a) (y := c) (by omega) (by omega) (by omega) (by omega)
      have hk7 : m 7 = k 7 := R.lo 7 (by omega)
      have hks : m (308 + s) = k (308 + s) := R.hi _ (by omega) (by omega)
      have hk8 : m 8 = k 8 := R.lo 8 (by omega)
      have hk9 : m 9 = k 9 := R.lo 9 (by omega)
      have hk2 : m 2 = k 2 := R.lo 2 (by omega)
      have hRl := PR_ld R hp ha hc (-1)
      have hRl2 : Rp (upd k (164 + (12 * c + a)) (-1)) := Rp_up hp (by omega)
      have hR7 := PR_up hRl (j := 7) (by omega) (k 7 + 1) hRl2
      have hR72 : Rp (upd (upd k (164 + (12 * c + a)) (-1)) 7 (k 7 + 1)) := Rp_up hRl2 (by omega)
      have hI7 : IP n (upd (upd k (164 + (12 * c + a)) (-1)) 7 (k 7 + 1)) := IP_up (IP_ld hI (by omega) (by omega)) (by omega)
      obtain ⟨w, hw⟩ : ∃ w, w = a + (k 0).toInt.toNat * c := ⟨_, rfl⟩
      have e3 : ∀ z : Int32, mm_rm z 3 = some (z - z / 3 * 3) := fun z => zz_rm (by decide)
      have hone := hand_1 hI hn.2 hs
      -- the reference's page, in its own order
      have mid : ∀ (g : Int32) (M1 Mk : mm_M) (sv' : Nat → Int32), (g = 0 ∨ g = 1) → Md M1 (b + 201) m sp sv tx rd u tl rc → ff_X7_keep M1 (b + 201) = some Mk → Md Mk (b + 201) m sp sv' tx rd (uk u) tl rc → ((k 7 + 1) - (k 7 + 1) / 3 * 3 = 0 ↔ g = 0) →
          ff_X7_lift M1 (b + 201) (nI a) (nI c) = some (g, wm Mk (b + 201) (upd (upd (upd (upd (upd m 7 (k 7 + 1)) (308 + s) (k (308 + s) + g)) 8 (k 8 + (if g = 0 then 1 else 0))) 9 (k 9 + (if g = 0 then k 2 else 0))) (164 + w) (-1))) := by
        intro g M1 Mk sv' hg hD1 hk hDk hgm
        have ho1 := hD1.mo
        have H0 := hDk.mo
        have s7 := s_m H0 (i := 7) (n := 7) rfl (by omega) (k 7 + 1)
        have H1 := Mo_w H0 (upd m 7 (k 7 + 1))
        have q7' := q_m H1 (i := 7) (n := 7) rfl (by omega)
        rw [upd_s] at q7'
        have ql := q_m H1 (ixm 164 164 z164 (by omega) (n := w) (by omega)) (by omega)
        rw [upd_n (by omega), hw, R.ld a c ha hc, ← lx_nn k (show a < 12 by omega) (show c < 12 by omega), s2, ← hw] at ql
        have qh := q_m H1 (ixm 308 308 z308 (by omega) (n := s) (by omega)) (by omega)
        rw [upd_n (by omega), hks] at qh
        have sh := s_m H1 (ixm 308 308 z308 (by omega) (n := s) (by omega)) (by omega) (k (308 + s) + g)
        rw [wm_wm] at sh
        have H2 := Mo_w H0 (upd (upd m 7 (k 7 + 1)) (308 + s) (k (308 + s) + g))
        have q8' := q_m H2 (i := 8) (n := 8) rfl (by omega)
        rw [upd_n (by omega), upd_n (by omega), hk8] at q8'
        have s8 := s_m H2 (i := 8) (n := 8) rfl (by omega) (k 8 + (if g = 0 then 1 else 0))
        rw [wm_wm] at s8
        have H3 := Mo_w H0 (upd (upd (upd m 7 (k 7 + 1)) (308 + s) (k (308 + s) + g)) 8 (k 8 + (if g = 0 then 1 else 0)))
        have q9' := q_m H3 (i := 9) (n := 9) rfl (by omega)
        rw [upd_n (by omega), upd_n (by omega), upd_n (by omega), hk9] at q9'
        have q2' := q_m H3 (i := 2) (n := 2) rfl (by omega)
        rw [upd_n (by omega), upd_n (by omega), upd_n (by omega), hk2] at q2'
        have s9 := s_m H3 (i := 9) (n := 9) rfl (by omega) (k 9 + (if g = 0 then k 2 else 0))
        rw [wm_wm] at s9
        have H4 := Mo_w H0 (upd (upd (upd (upd m 7 (k 7 + 1)) (308 + s) (k (308 + s) + g)) 8 (k 8 + (if g = 0 then 1 else 0))) 9 (k 9 + (if g = 0 then k 2 else 0)))
        have sl := s_m H4 (ixm 164 164 z164 (by omega) (n := w) (by omega)) (by omega) (-1)
        rw [wm_wm] at sl
        simp (decide := true) only [ff_X7_lift, c_m ho1, e7 M1 ho1, n_m ho1, q0 ho1, ei, ld M1 ho1, if_neg hl, hk, n_m H0, q7 H0, hk7, s7, n_m H1, q7', e3, Option.bind_some, if_true, if_false]
        rw [← hw]
        rcases hg with rfl | rfl
        · rw [if_pos (hgm.mpr rfl)]
          simp (decide := true) only [if_true] at s8 q9' q2' s9 H3 H4 sl ⊢
          simp (decide := true) only [ff_X7_lift_j71, ff_X7_lift_j103, ff_X7_lift_j123, ff_X7_lift_j148, n_m H1, ql, qh, sh, n_m H2, q8', s8, n_m H3, q9', q2', s9, n_m H4, sl, Option.bind_some, if_true, if_false]
        · rw [if_neg (fun q => absurd (hgm.mp q) (by decide))]
          simp (decide := true) only [if_false] at s8 q9' q2' s9 H3 H4 sl ⊢
          simp (decide := true) only [ff_X7_lift_j71, ff_X7_lift_j103, ff_X7_lift_j123, ff_X7_lift_j148, n_m H1, ql, qh, sh, n_m H2, q8', s8, n_m H3, q9', q2', s9, n_m H4, sl, Option.bind_some, if_true, if_false]
      by_cases hm : (k 7 + 1) - (k 7 + 1) / 3 * 3 = 0
      · have epl : pli k (nI a) (nI c) = upd (upd (upd (upd k (164 + (12 * c + a)) (-1)) 7 (k 7 + 1)) 8 (k 8 + 1)) 9 (k 9 + k 2) := by
          unfold pli
          rw [if_pos hm, e12]
        have hR8 := PR_up hR7 (j := 8) (by omega) (k 8 + 1) hR72
        have hR9 := PR_up hR8 (j := 9) (by omega) (k 9 + k 2) (Rp_up hR72 (by omega))
        rw [← epl] at hR9
        have hIf : IP n (pli k (nI a) (nI c)) := by
          rw [epl]
          exact IP_up (IP_up hI7 (by omega)) (by omega)
        refine fin_w hC hD hK (r := 0) (k' := pli k (nI a) (nI c)) (fun Mk hk hCk => ?_) (fun M1 hD1 Mk sv' hk hDk => ⟨_, mid 0 M1 Mk sv' (Or.inl rfl) hD1 hk hDk ⟨fun _ => rfl, fun _ => hm⟩, PR_ext hR9 hIf.1 (fun j hj => ?_)⟩) (IP_mono hIf (by omega))
        · obtain ⟨M1, a1, a2, a3⟩ := v_lift hCk.st hI hin hl
          refine ⟨M1, ?_, a2, a3⟩
          rw [if_pos hm] at a1
          simp (decide := true) only [ff_X6_lift, i_0 hC, g_s0 h, c_p h, c_s h, e6, l6, if_neg hl, i_2 hC, i_h hC, hk, i_0 hCk, c_s hCk.st, a1, mm_u2, Option.bind_some, if_true, if_false]
        · rw [if_pos rfl, if_pos rfl, ← hw, Int32.add_zero]
          simp only [upd]
          by_cases j1 : j = 164 + w
          · rw [if_pos j1, if_neg (by omega), if_neg (by omega), if_neg (by omega), if_pos j1]
          · rw [if_neg j1]
            by_cases j2 : j = 9
            · rw [if_pos j2, if_pos j2]
            · rw [if_neg j2, if_neg j2]
              by_cases j3 : j = 8
              · rw [if_pos j3, if_pos j3]
              · rw [if_neg j3, if_neg j3]
                by_cases j4 : j = 308 + s
                · rw [if_pos j4, if_neg (by omega), if_neg j1, j4, hks]
                · rw [if_neg j4, if_neg j1]
      · have epl : pli k (nI a) (nI c) = upd (upd (upd k (164 + (12 * c + a)) (-1)) 7 (k 7 + 1)) (308 + s) (k (308 + s) + 1) := by
          unfold pli
          rw [if_neg hm, e12, s1, Int.toNat_natCast]
        have hR8 := PR_up hR7 (j := 308 + s) (by omega) (k (308 + s) + 1) hR72
        rw [← epl] at hR8
        have hIf : IP (n + 1) (pli k (nI a) (nI c)) := by
          rw [epl]
          exact IP_hand hI7 hs hone.1 hone.2
        refine fin_w hC hD hK (r := 1) (k' := pli k (nI a) (nI c)) (fun Mk hk hCk => ?_) (fun M1 hD1 Mk sv' hk hDk => ⟨_, mid 1 M1 Mk sv' (Or.inr rfl) hD1 hk hDk ⟨fun q => absurd q hm, fun q => absurd q (by decide)⟩, PR_ext hR8 hIf.1 (fun j hj => ?_)⟩) hIf
        · obtain ⟨M1, a1, a2, a3⟩ := v_lift hCk.st hI hin hl
          refine ⟨M1, ?_, a2, a3⟩
          rw [if_neg hm] at a1
          simp (decide := true) only [ff_X6_lift, i_0 hC, g_s0 h, c_p h, c_s h, e6, l6, if_neg hl, i_2 hC, i_h hC, hk, i_0 hCk, c_s hCk.st, a1, mm_u2, Option.bind_some, if_true, if_false]
        · rw [if_neg (by decide), if_neg (by decide), ← hw, Int32.add_zero, Int32.add_zero]
          simp only [upd]
          by_cases j1 : j = 164 + w
          · rw [if_pos j1, if_neg (by omega), if_neg (by omega), if_pos j1]
          · rw [if_neg j1]
            by_cases j2 : j = 9
            · rw [if_pos j2, if_neg (by omega), if_neg (by omega), if_neg j1, j2, hk9]
            · rw [if_neg j2]
              by_cases j3 : j = 8
              · rw [if_pos j3, if_neg (by omega), if_neg (by omega), if_neg j1, j3, hk8]
              · rw [if_neg j3]
                by_cases j4 : j = 308 + s
                · rw [if_pos j4, if_pos j4]
                · rw [if_neg j4, if_neg j4, if_neg j1]
  · have e6 := p_has0 h hin
    have e7 := (m_cell ho hpm x y).2 (fun q => hin ((in_km R).mp q))
    refine fin_r hC hD hK (r := -1) ?_ ?_
    · simp (decide := true) only [ff_X6_lift, i_0 hC, g_s0 h, c_p h, e6, Option.bind_some, if_true, if_false]
    · simp (decide := true) only [ff_X7_lift, c_m ho, e7, Option.bind_some, if_true, if_false]
end WT
