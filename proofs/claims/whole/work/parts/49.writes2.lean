/-! the calls that change the page: wants, strips, flaws, cuts -/
section WS
variable {n : Int} {b u tl : Nat} {M : mm_M} {k m sp sv tx rd : Nat → Int32} {pg : Nat → Nat → Int32} {rc : Int32}
theorem p_wif (h : St M b k) (hp : Rp k) {x y : Nat} (hx : (x : Int) < (k 0).toInt) (hy : (y : Int) < (k 1).toInt) (v : Int32) : ∃ M', ff_X1_wantInField M (b + 1) (nI x) (nI y) v = some M' ∧ St M' b (upd k (20 + (12 * y + x)) v) ∧ Fz b M M' := by
  have hp' := hp
  unfold Rp at hp'
  have hin : ins k (nI x) (nI y) := ins_n (w := (k 0).toInt.toNat) (h := (k 1).toInt.toNat) (by omega) (by omega) (by omega) (by omega) hp
  have e := ix hp hin
  rw [zz_nI x (by omega), zz_nI y (by omega)] at e
  obtain ⟨M', a1, a2, a3⟩ := w_w h (i := nI y * 12 + nI x) (by omega) (by omega) v
  rw [e, show ((12 * (y : Int) + x).toNat) = 12 * y + x by omega] at a2
  refine ⟨M', ?_, a2, a3⟩
  simp only [ff_X1_wantInField, c_p h, p_has1 h hin, g_p0 h, a1, Option.bind_some]
  rw [if_neg (by decide)]
theorem s_want (hn : 0 ≤ n ∧ n ≤ 1000) (hC : Ci M b k u pg tl tx) (hD : Md M (b + 201) m sp sv tx rd u tl rc) (hK : KR n k m u pg sv tl) (x y v : Int32) : SS n b M (fun M => ff_X6_want M b x y v) (fun M => ff_X7_want M (b + 201) x y v) := by
  have h := hC.st
  have ho := hD.mo
  have R := hK.1
  have hI := hK.2.1
  have hp := hI.1
  have hp' := hp
  unfold Rp at hp'
  have hpm := PR_Rp R hp
  by_cases hin : ins k x y
  · have e6 := p_has1 h hin
    have e7 := fun (M1 : mm_M) (h1 : Mo M1 (b + 201) m) => (m_cell h1 hpm x y).1 ((in_km R).mpr hin)
    by_cases hv : 0 ≤ v.toInt ∧ v.toInt ≤ 99
    · have eb := fun (M1 : mm_M) (h1 : Mo M1 (b + 201) m) => m_bo h1 hpm ((in_km R).mpr hin)
      have l6 := u_isL h hp hin
      obtain ⟨a, c, rfl, rfl, ha, hc⟩ := ins_nat hin
      have ei := cidx R hp ha hc
      have hlt := cx_lt (w := (k 0).toInt.toNat) (h := (k 1).toInt.toNat) (x := a) (y := c) (by omega) (by omega) (by omega) (by omega)
      have i20 := ixm 20 20 z20 (by omega) (n := a + (k 0).toInt.toNat * c) (by omega)
      by_cases hbo : bor k (nI a) (nI c)
      · have nb : ∀ M1, Mo M1 (b + 201) m → ∃ r, ff_X7_borderOf M1 (b + 201) (nI a) (nI c) = some r ∧ r ≠ -1 := by
          intro M1 h1
          obtain ⟨r, r1, r2⟩ := (eb M1 h1).1 ((bo_km R).mpr hbo)
          refine ⟨r, r1, ?_⟩
          have := (bn_r (w := (k 0).toInt) (h := (k 1).toInt) (x := a) (y := c) (by omega) (by omega) (by omega) (by omega) (by omega) (by omega)).1
          rw [Ne, zz_e, zm1, r2, R.lo 0 (by omega), R.lo 1 (by omega), zz_nI a (by omega), zz_nI c (by omega)]
          omega
        obtain ⟨r, r1, r2⟩ := nb M ho
        refine fin_r hC hD hK (r := -2) ?_ ?_
        · simp (decide := true) only [ff_X6_want, i_0 hC, g_s0 h, c_p h, e6, is_99, if_pos hv, p_bor1 h hp hbo, Option.bind_some, if_true, if_false]
        · simp (decide := true) only [ff_X7_want, c_m ho, e7 M ho, in_99, if_pos hv, n_m ho, q0 ho, r1, Option.bind_some, if_true, if_false]
          rw [if_neg r2]
      · have nb : ∀ M1, Mo M1 (b + 201) m → ff_X7_borderOf M1 (b + 201) (nI a) (nI c) = some (-1) := fun M1 h1 => (eb M1 h1).2 (fun z => hbo ((bo_km R).mp z))
        have ld : ∀ M1, Mo M1 (b + 201) m → mm_aI 0 M1 (b + 201 + 1) (164 + nI (a + (k 0).toInt.toNat * c)) = some (lx k (nI a) (nI c)) := fun M1 h1 => (m_diff h1 R hI ha hc).2.1
        have hwn : wn k (nI a) (nI c) = k (20 + (12 * c + a)) := by
          unfold wn
          unfold bor at hbo
          rw [if_neg hbo, zz_nI a (by omega), zz_nI c (by omega)]
          congr 2
        by_cases hl : lx k (nI a) (nI c) = -1
        · refine fin_w hC hD hK (r := wn k (nI a) (nI c)) (k' := upd k (20 + (12 * c + a)) v) (fun Mk hk hCk => ?_) (fun M1 hD1 Mk sv' hk hDk => ⟨_, ?_, PR_wt R hp ha hc v⟩) (IP_mono (IP_want hI (by omega) (by omega) hv) (by omega))
          · obtain ⟨M1, a1, a2, a3⟩ := p_wif hCk.st hp ha hc v
            refine ⟨M1, ?_, a2, a3⟩
            simp (decide := true) only [ff_X6_want, i_0 hC, g_s0 h, c_p h, c_s h, e6, is_99, if_pos hv, p_bor0 h hp hbo, l6, if_pos hl, i_2 hC, i_h hC, hk, i_0 hCk, g_s0 hCk.st, c_p hCk.st, p_want hCk.st hp hin, a1, Option.bind_some, if_true, if_false]
          · have rq := q_m hDk.mo i20 (by omega)
            have sq := s_m hDk.mo i20 (by omega) v
            rw [R.wt a c ha hc, ← hwn] at rq
            simp (decide := true) only [ff_X7_want, c_m hD1.mo, e7 M1 hD1.mo, in_99, if_pos hv, n_m hD1.mo, q0 hD1.mo, nb M1 hD1.mo, ei, ld M1 hD1.mo, if_pos hl, hk, n_m hDk.mo, rq, sq, Option.bind_some, if_true, if_false]
        · refine fin_r hC hD hK (r := -2) ?_ ?_
          · simp (decide := true) only [ff_X6_want, i_0 hC, g_s0 h, c_p h, c_s h, e6, is_99, if_pos hv, p_bor0 h hp hbo, l6, if_neg hl, Option.bind_some, if_true, if_false]
          · simp (decide := true) only [ff_X7_want, c_m ho, e7 M ho, in_99, if_pos hv, n_m ho, q0 ho, nb M ho, ei, ld M ho, if_neg hl, Option.bind_some, if_true, if_false]
    · refine fin_r hC hD hK (r := -1) ?_ ?_
      · simp (decide := true) only [ff_X6_want, i_0 hC, g_s0 h, c_p h, e6, is_99, if_neg hv, Option.bind_some, if_true, if_false]
      · simp (decide := true) only [ff_X7_want, c_m ho, e7 M ho, in_99, if_neg hv, Option.bind_some, if_true, if_false]
  · have e6 := p_has0 h hin
    have e7 := (m_cell ho hpm x y).2 (fun q => hin ((in_km R).mp q))
    refine fin_r hC hD hK (r := -1) ?_ ?_
    · simp (decide := true) only [ff_X6_want, i_0 hC, g_s0 h, c_p h, e6, Option.bind_some, if_true, if_false]
    · simp (decide := true) only [ff_X7_want, c_m ho, e7, Option.bind_some, if_true, if_false]
theorem s_strip (hn : 0 ≤ n ∧ n ≤ 1000) (hC : Ci M b k u pg tl tx) (hD : Md M (b + 201) m sp sv tx rd u tl rc) (hK : KR n k m u pg sv tl) (L s : Int32) : SS n b M (fun M => ff_X6_strip M b L s) (fun M => ff_X7_strip M (b + 201) L s) := by
  have h := hC.st
  have ho := hD.mo
  have R := hK.1
  have hI := hK.2.1
  by_cases hL : (20 : Int32).toInt ≤ L.toInt ∧ L.toInt ≤ (1000 : Int32).toInt
  · by_cases hs : 0 ≤ s.toInt ∧ s.toInt ≤ 99
    · have hs' : (0 : Int32).toInt ≤ s.toInt ∧ s.toInt ≤ (99 : Int32).toInt := hs
      have h6 := hI.2.2.1.2.2.1
      obtain ⟨i, i1, i2⟩ := nat_of h6.1
      by_cases hi : i < 10
      · have c6 : k 6 < 10 := by rw [zz_lt, z10]; omega
        have c7 : ¬ k 6 = 10 := by rw [zz_e, z10]; omega
        refine fin_w hC hD hK (r := nI i) (k' := pAs k i L s) (fun Mk hk hCk => ?_) (fun M1 hD1 Mk sv' hk hDk => ?_) (IP_mono (IP_strip hI hi i2 (by rw [e20i, e1000i] at hL; omega) hs) (by omega))
        · obtain ⟨M1, a1, a2, a3⟩ := t_addStrip hCk.st hi i2 L s
          refine ⟨M1, ?_, a2, a3⟩
          simp (decide := true) only [ff_X6_strip, t_within, if_pos hL, is_99, if_pos hs, i_0 hC, g_s1 h, g_t2 h, if_pos c6, i_2 hC, i_h hC, hk, i_0 hCk, g_s1 hCk.st, c_t hCk.st, a1, mm_u2, Option.bind_some, if_true, if_false]
        · have e6 : m 6 = nI i := by rw [R.lo 6 (by omega), i2]
          have H0 := hDk.mo
          have s6 := s_m H0 (i := 6) (n := 6) rfl (by omega) (m 6 + 1)
          have H1 := Mo_w H0 (upd m 6 (m 6 + 1))
          have s0 := pu0 H1 hi L
          rw [wm_wm] at s0
          have H2 := Mo_w H0 (upd (upd m 6 (m 6 + 1)) (408 + 11 * i) L)
          have s1 := pu1 H2 hi s
          rw [wm_wm] at s1
          have H3 := Mo_w H0 (upd (upd (upd m 6 (m 6 + 1)) (408 + 11 * i) L) (409 + 11 * i) s)
          have s2 := pu2 H3 hi 0
          rw [wm_wm] at s2
          have H4 := Mo_w H0 (upd (upd (upd (upd m 6 (m 6 + 1)) (408 + 11 * i) L) (409 + 11 * i) s) (410 + 11 * i) 0)
          have s3 := pu3 H4 hi 0
          rw [wm_wm] at s3
          have H5 := Mo_w H0 (upd (upd (upd (upd (upd m 6 (m 6 + 1)) (408 + 11 * i) L) (409 + 11 * i) s) (410 + 11 * i) 0) (411 + 11 * i) 0)
          have s4 := pu4 H5 hi 0
          rw [wm_wm] at s4
          refine ⟨_, ?_, PR_strip R hI.1 hi L s⟩
          have efin : upd (upd (upd (upd (upd (upd m 6 (m 6 + 1)) (408 + 11 * i) L) (409 + 11 * i) s) (410 + 11 * i) 0) (411 + 11 * i) 0) (412 + 11 * i) 0 = pAs m i L s := by
            unfold pAs
            funext j
            by_cases hj : j = 6
            · subst hj
              rw [upd_n (by omega), upd_n (by omega), upd_n (by omega), upd_n (by omega), upd_n (by omega), upd_s, upd_s]
            · rw [upd_n hj]
              unfold upd
              simp only [if_neg hj]
          rw [efin] at s4
          rw [e6] at s6 s0 s1 s2 s3 s4 H1 H2 H3 H4 H5
          simp (decide := true) only [ff_X7_strip, m_in, if_pos hL, if_pos hs', n_m hD1.mo, q6 hD1.mo, c_m hD1.mo, hk, n_m H0, q6 H0, e6, s6, c_m H1, s0, c_m H2, s1, c_m H3, s2, c_m H4, s3, c_m H5, s4, Option.bind_some, if_true, if_false]
          rw [if_neg (show ¬ nI i = 10 by rw [← i2]; exact c7)]
      · have c6 : ¬ k 6 < 10 := by rw [zz_lt, z10]; omega
        have c7 : k 6 = 10 := by rw [zz_e, z10]; omega
        refine fin_r hC hD hK (r := -3) ?_ ?_
        · simp (decide := true) only [ff_X6_strip, t_within, if_pos hL, is_99, if_pos hs, i_0 hC, g_s1 h, g_t2 h, if_neg c6, Option.bind_some, if_true, if_false]
        · simp (decide := true) only [ff_X7_strip, m_in, if_pos hL, if_pos hs', n_m ho, q6 ho, R.lo 6 (show 6 < 12 by omega), if_pos c7, Option.bind_some, if_true, if_false]
    · have hs' : ¬ ((0 : Int32).toInt ≤ s.toInt ∧ s.toInt ≤ (99 : Int32).toInt) := hs
      refine fin_r hC hD hK (r := -1) ?_ ?_
      · simp (decide := true) only [ff_X6_strip, t_within, if_pos hL, is_99, if_neg hs, Option.bind_some, if_true, if_false]
      · simp (decide := true) only [ff_X7_strip, m_in, if_pos hL, if_neg hs', Option.bind_some, if_true, if_false]
  · refine fin_r hC hD hK (r := -1) ?_ ?_
    · simp (decide := true) only [ff_X6_strip, t_within, if_neg hL, Option.bind_some, if_true, if_false]
    · simp (decide := true) only [ff_X7_strip, m_in, if_neg hL, Option.bind_some, if_true, if_false]
theorem s_flaw (hn : 0 ≤ n ∧ n ≤ 1000) (hC : Ci M b k u pg tl tx) (hD : Md M (b + 201) m sp sv tx rd u tl rc) (hK : KR n k m u pg sv tl) (x v : Int32) : SS n b M (fun M => ff_X6_flaw M b x v) (fun M => ff_X7_flaw M (b + 201) x v) := by
  have h := hC.st
  have ho := hD.mo
  have R := hK.1
  have hI := hK.2.1
  have hr := hI.2.2.1
  have hrm := PR_Rs R hr
  have h6 := hr.2.2.1
  have L6 := R.lo 6 (by omega)
  by_cases hx : 0 ≤ x.toInt ∧ x.toInt < (k 6).toInt
  · obtain ⟨i, i1, i2⟩ := nat_of hx.1
    have hi : i < 10 := by omega
    have exn : x.toInt.toNat = i := by omega
    subst i2
    have ts := t_strip h hr (nI i)
    rw [if_pos hx, exn] at ts
    have H : ∀ j, 408 ≤ j → j < 518 → m j = k j := fun j h1 h2 => R.hi j (by omega) h2
    have hs := hr.2.2.2 i hi
    by_cases hv : (0 : Int32).toInt ≤ v.toInt ∧ v.toInt ≤ (999 : Int32).toInt
    · have el : (k (408 + 11 * i) - 1).toInt = (k (408 + 11 * i)).toInt - 1 := zz_s (by rw [z1]; omega) (by rw [z1]; omega)
      by_cases hv2 : (k (410 + 11 * i)).toInt ≤ v.toInt ∧ v.toInt ≤ (k (408 + 11 * i) - 1).toInt
      · have ev1 : -2147483648 < (v + 1).toInt := by
          rw [z0, e999i] at hv
          rw [zz_a (by rw [z1]; omega) (by rw [z1]; omega), z1]
          omega
        have hfm : ∀ M1, Mo M1 (b + 201) m → ff_X7_hasFlaw M1 (b + 201) (nI i) v (v + 1) = some (if hf k i v.toInt (v + 1).toInt then 1 else 0) := by
          intro M1 h1
          rw [m_hf h1 hrm hi v (v + 1) ev1, hf_congr (k := k) (H _ (by omega) (by omega)) (fun j hj => H _ (by omega) (by omega))]
        by_cases hfl : hf k i v.toInt (v + 1).toInt = true
        · refine fin_r hC hD hK (r := -2) ?_ ?_
          · simp (decide := true) only [ff_X6_flaw, i_0 hC, g_s1 h, c_t h, ts, mm_oc, t_within, if_pos hv, g_r4 h hi, g_r2 h hi, if_pos hv2, c_r h hi, s_hf h hr hi, if_pos hfl, Option.bind_some, if_true, if_false]
          · simp (decide := true) only [ff_X7_flaw, c_m ho, m_isS ho hrm, L6, if_pos hx, m_in, if_pos hv, of2 ho hi, of0 ho hi, H (410 + 11 * i) (by omega) (by omega), H (408 + 11 * i) (by omega) (by omega), if_pos hv2, hfm M ho, if_pos hfl, Option.bind_some, if_true, if_false]
        · by_cases h5 : (k (411 + 11 * i)).toInt < 6
          · have c5 : k (411 + 11 * i) < 6 := by rw [zz_lt, e6i]; exact h5
            have c5b : ¬ k (411 + 11 * i) = 6 := by rw [zz_e, e6i]; omega
            refine fin_w hC hD hK (r := k (411 + 11 * i) + 1) (k' := pFl k i v) (fun Mk hk hCk => ?_) (fun M1 hD1 Mk sv' hk hDk => ⟨_, ?_, PR_flaw R hI.1 hi hs.2.2.2.1.1 h5⟩) (IP_mono (IP_flaw hI hi hs.2.2.2.1.1 h5) (by omega))
            · obtain ⟨M1, a1, a2, a3⟩ := t_flaw hCk.st hi hs.2.2.2.1.1 h5 v
              refine ⟨M1, ?_, a2, a3⟩
              have e3 : pFl k i v (411 + 11 * i) = k (411 + 11 * i) + 1 := by unfold pFl; rw [upd_s]
              simp (decide := true) only [ff_X6_flaw, i_0 hC, g_s1 h, c_t h, ts, mm_oc, t_within, if_pos hv, g_r4 h hi, g_r2 h hi, if_pos hv2, c_r h hi, s_hf h hr hi, if_neg hfl, g_r1 h hi, if_pos c5, i_2 hC, i_h hC, hk, c_r hCk.st hi, a1, g_r1 a2 hi, e3, Option.bind_some, if_true, if_false]
            · have H0 := hDk.mo
              have e3m : m (411 + 11 * i) = k (411 + 11 * i) := H _ (by omega) (by omega)
              obtain ⟨t, et1, et2⟩ := nat_of hs.2.2.2.1.1
              have ei5 : (5 + k (411 + 11 * i)).toInt = ((5 + t : Nat) : Int) := by rw [et2]; exact ixm 5 5 rfl (by omega) (by omega)
              have s5 := m_put H0 hi ei5 (by omega) v
              rw [show 408 + 11 * i + (5 + t) = 413 + 11 * i + t by omega] at s5
              have H1 := Mo_w H0 (upd m (413 + 11 * i + t) v)
              have u1 : upd m (413 + 11 * i + t) v (411 + 11 * i) = k (411 + 11 * i) := by rw [upd_n (by omega), e3m]
              have s3 := pu3 H1 hi (k (411 + 11 * i) + 1)
              rw [wm_wm] at s3
              have efin : upd (upd m (413 + 11 * i + t) v) (411 + 11 * i) (k (411 + 11 * i) + 1) = pFl m i v := by
                unfold pFl
                rw [e3m, show (k (411 + 11 * i)).toInt.toNat = t by omega]
              rw [efin] at s3
              have H2 := Mo_w H0 (pFl m i v)
              have u2 : pFl m i v (411 + 11 * i) = k (411 + 11 * i) + 1 := by unfold pFl; rw [upd_s, e3m]
              have ho1 := hD1.mo
              simp (decide := true) only [ff_X7_flaw, c_m ho1, m_isS ho1 hrm, L6, if_pos hx, m_in, if_pos hv, of2 ho1 hi, of0 ho1 hi, of3 ho1 hi, H (410 + 11 * i) (by omega) (by omega), H (408 + 11 * i) (by omega) (by omega), if_pos hv2, hfm M1 ho1, if_neg hfl, e3m, if_neg c5b, hk, c_m H0, of3 H0 hi, s5, c_m H1, of3 H1 hi, u1, s3, c_m H2, of3 H2 hi, u2, Option.bind_some, if_true, if_false]
          · have c5 : ¬ k (411 + 11 * i) < 6 := by rw [zz_lt, e6i]; exact h5
            have c5b : k (411 + 11 * i) = 6 := by rw [zz_e, e6i]; omega
            refine fin_r hC hD hK (r := -3) ?_ ?_
            · simp (decide := true) only [ff_X6_flaw, i_0 hC, g_s1 h, c_t h, ts, mm_oc, t_within, if_pos hv, g_r4 h hi, g_r2 h hi, if_pos hv2, c_r h hi, s_hf h hr hi, if_neg hfl, g_r1 h hi, if_neg c5, Option.bind_some, if_true, if_false]
            · simp (decide := true) only [ff_X7_flaw, c_m ho, m_isS ho hrm, L6, if_pos hx, m_in, if_pos hv, of2 ho hi, of0 ho hi, of3 ho hi, H (411 + 11 * i) (by omega) (by omega), H (410 + 11 * i) (by omega) (by omega), H (408 + 11 * i) (by omega) (by omega), if_pos hv2, hfm M ho, if_neg hfl, if_pos c5b, Option.bind_some, if_true, if_false]
      · refine fin_r hC hD hK (r := -2) ?_ ?_
        · simp (decide := true) only [ff_X6_flaw, i_0 hC, g_s1 h, c_t h, ts, mm_oc, t_within, if_pos hv, g_r4 h hi, g_r2 h hi, if_neg hv2, Option.bind_some, if_true, if_false]
        · simp (decide := true) only [ff_X7_flaw, c_m ho, m_isS ho hrm, L6, if_pos hx, m_in, if_pos hv, of2 ho hi, of0 ho hi, H (410 + 11 * i) (by omega) (by omega), H (408 + 11 * i) (by omega) (by omega), if_neg hv2, Option.bind_some, if_true, if_false]
    · refine fin_r hC hD hK (r := -1) ?_ ?_
      · simp (decide := true) only [ff_X6_flaw, i_0 hC, g_s1 h, c_t h, ts, mm_oc, t_within, if_neg hv, Option.bind_some, if_true, if_false]
      · simp (decide := true) only [ff_X7_flaw, c_m ho, m_isS ho hrm, L6, if_pos hx, m_in, if_neg hv, Option.bind_some, if_true, if_false]
  · have ts := t_strip h hr x
    rw [if_neg hx] at ts
    refine fin_r hC hD hK (r := -1) ?_ ?_
    · simp (decide := true) only [ff_X6_flaw, i_0 hC, g_s1 h, c_t h, ts, mm_oc, Option.bind_some, if_true, if_false]
    · simp (decide := true) only [ff_X7_flaw, c_m ho, m_isS ho hrm, L6, if_neg hx, Option.bind_some, if_true, if_false]
theorem s_cut (hn : 0 ≤ n ∧ n ≤ 1000) (hC : Ci M b k u pg tl tx) (hD : Md M (b + 201) m sp sv tx rd u tl rc) (hK : KR n k m u pg sv tl) (x : Int32) : SS n b M (fun M => ff_X6_cut M b x) (fun M => ff_X7_cut M (b + 201) x) := by
  have h := hC.st
  have ho := hD.mo
  have R := hK.1
  have hI := hK.2.1
  have hr := hI.2.2.1
  have hrm := PR_Rs R hr
  have h6 := hr.2.2.1
  have L6 := R.lo 6 (by omega)
  by_cases hx : 0 ≤ x.toInt ∧ x.toInt < (k 6).toInt
  · obtain ⟨i, i1, i2⟩ := nat_of hx.1
    have hi : i < 10 := by omega
    have exn : x.toInt.toNat = i := by omega
    subst i2
    have ts := t_strip h hr (nI i)
    rw [if_pos hx, exn] at ts
    have H : ∀ j, 408 ≤ j → j < 518 → m j = k j := fun j h1 h2 => R.hi j (by omega) h2
    have hs := hr.2.2.2 i hi
    have el : (k (408 + 11 * i) - k (410 + 11 * i)).toInt = (k (408 + 11 * i)).toInt - (k (410 + 11 * i)).toInt := zz_s (by omega) (by omega)
    have h0 := ta_iff hr (i := i) 0
    have e0 : tp k i 0 = (k (410 + 11 * i)).toInt := by unfold tp; simp
    rw [e0] at h0
    have em := PR_ta R hi
    by_cases hc : 0 < ta k i
    · have hc1 := h0.mp hc
      have cc : k 2 ≤ k (408 + 11 * i) - k (410 + 11 * i) := by rw [zz_le, el]; omega
      have hcm : 0 < ta m i := by rw [em]; exact hc
      refine fin_w hC hD hK (r := if tg k i 0 then 1 else 0) (k' := ph k i) (fun Mk hk hCk => ?_) (fun M1 hD1 Mk sv' hk hDk => ⟨_, ?_, PR_cut R hI.1 hr hi⟩) (IP_cut hI hn.2 hi hc)
      · obtain ⟨M1, a1, a2, a3⟩ := t_cut hCk.st hr hi hc
        refine ⟨M1, ?_, a2, a3⟩
        simp (decide := true) only [ff_X6_cut, i_0 hC, g_s1 h, c_t h, ts, mm_oc, c_r h hi, s_left h hi, g_t3 h, if_pos cc, i_2 hC, i_h hC, hk, i_0 hCk, g_s1 hCk.st, c_t hCk.st, a1, mm_u2, ci10, Option.bind_some, if_true, if_false]
        split <;> rfl
      · have H0 := hDk.mo
        have ho1 := hD1.mo
        have hcu := m_cuts H0 hrm hi hcm
        have H1 := Mo_w H0 (pc m i)
        have u9 : pc m i (409 + 11 * i) = k (409 + 11 * i) := by rw [pc_n (by omega) (by omega) (by omega) (by omega) (by omega), H _ (by omega) (by omega)]
        obtain ⟨s, s1, s2⟩ := nat_of hs.2.1.1
        have es := zz_nI s (by omega)
        have e308 := ixm 308 308 z308 (by omega) (n := s) (by omega)
        have uh : pc m i (308 + s) = m (308 + s) := pc_n (by omega) (by omega) (by omega) (by omega) (by omega)
        have rq := q_m H1 e308 (by omega)
        rw [uh] at rq
        have sq := fun v => s_m H1 e308 (show 308 + s < 518 by omega) v
        have etg := PR_tg R hr hi 0
        have hon : ff_X7_of (wm Mk (b + 201) (pc m i)) (b + 201) (nI i) 1 = some (nI s) := by rw [of1 H1 hi, u9, s2]
        simp (decide := true) only [ff_X7_cut, ff_X7_cut_j56, c_m ho1, m_isS ho1 hrm, L6, if_pos hx, m_can ho1 hrm hi, if_pos hcm, hk, c_m H0, hcu, mm_u2, n_m H1, c_m H1, hon, rq, sq, wm_wm, ci10, Option.bind_some, if_true, if_false]
        have eh9 : m (409 + 11 * i) = nI s := by rw [H _ (by omega) (by omega), s2]
        unfold ph
        rw [etg, eh9, es, Int.toNat_natCast]
        split
        · rfl
        · have : upd (pc m i) (308 + s) (m (308 + s) + 0) = pc m i := by
            funext j
            by_cases hj : j = 308 + s
            · rw [hj, upd_s, Int32.add_zero, uh]
            · rw [upd_n hj]
          rw [this]
    · have hc1 : ¬ (k (410 + 11 * i)).toInt + (k 2).toInt ≤ (k (408 + 11 * i)).toInt := fun q => hc (h0.mpr q)
      have cc : ¬ k 2 ≤ k (408 + 11 * i) - k (410 + 11 * i) := by rw [zz_le, el]; omega
      have hcm : ¬ 0 < ta m i := by rw [em]; exact hc
      refine fin_r hC hD hK (r := -2) ?_ ?_
      · simp (decide := true) only [ff_X6_cut, i_0 hC, g_s1 h, c_t h, ts, mm_oc, c_r h hi, s_left h hi, g_t3 h, if_neg cc, Option.bind_some, if_true, if_false]
      · simp (decide := true) only [ff_X7_cut, c_m ho, m_isS ho hrm, L6, if_pos hx, m_can ho hrm hi, if_neg hcm, Option.bind_some, if_true, if_false]
  · have ts := t_strip h hr x
    rw [if_neg hx] at ts
    refine fin_r hC hD hK (r := -1) ?_ ?_
    · simp (decide := true) only [ff_X6_cut, i_0 hC, g_s1 h, c_t h, ts, mm_oc, Option.bind_some, if_true, if_false]
    · simp (decide := true) only [ff_X7_cut, c_m ho, m_isS ho hrm, L6, if_neg hx, Option.bind_some, if_true, if_false]
end WS
