/-! the reference cuts and lays -/
section MC
variable {M : mm_M} {y : Nat} {m : Nat → Int32}
theorem z9 : (9 : Int32).toInt = 9 := rfl
theorem m_cuts (h : Mo M y m) (hr : Rs m) {i : Nat} (hi : i < 10) (hc : 0 < ta m i) : ff_X7_cuts M y (nI i) = some ((if tg m i 0 then 1 else 0), wm M y (pc m i)) := by
  have h0 := (ta_iff hr (i := i) 0).mp hc
  have e0 : tp m i 0 = (m (410 + 11 * i)).toInt := by unfold tp; simp
  rw [e0] at h0
  have hs := hr.2.2.2 i hi
  have h2 := hr.1
  have h3 := hr.2.1
  have ea : (m (410 + 11 * i) + m 2).toInt = (m (410 + 11 * i)).toInt + (m 2).toInt := zz_a (by omega) (by omega)
  have el : (m (408 + 11 * i) - m (410 + 11 * i)).toInt = (m (408 + 11 * i)).toInt - (m (410 + 11 * i)).toInt := zz_s (by omega) (by omega)
  have el2 : (m (408 + 11 * i) - m (410 + 11 * i) - m 2).toInt = (m (408 + 11 * i)).toInt - (m (410 + 11 * i)).toInt - (m 2).toInt := by rw [zz_s (by omega) (by omega), el]
  obtain ⟨r, r1, r2⟩ := m_less M (m 3) (m (408 + 11 * i) - m (410 + 11 * i) - m 2)
  rw [el2] at r2
  have ep : (m (410 + 11 * i) + m 2 + m 3).toInt = (m (410 + 11 * i)).toInt + (m 2).toInt + (m 3).toInt := by rw [zz_a (by omega) (by omega), ea]
  have es : ps' m i = m (410 + 11 * i) + m 2 + r := by
    unfold ps'
    rw [zz_e, zz_mn, ep, zz_a (by omega) (by omega), ea]
    omega
  have er : m (408 + 11 * i) - m (410 + 11 * i) - m 2 - (m (408 + 11 * i) - (m (410 + 11 * i) + m 2 + r)) = r := by
    have b1 : (m (410 + 11 * i) + m 2 + r).toInt = (m (410 + 11 * i)).toInt + (m 2).toInt + r.toInt := by rw [zz_a (by omega) (by omega), ea]
    have b2 : (m (408 + 11 * i) - (m (410 + 11 * i) + m 2 + r)).toInt = (m (408 + 11 * i)).toInt - ((m (410 + 11 * i)).toInt + (m 2).toInt + r.toInt) := by rw [zz_s (by omega) (by omega), b1]
    rw [zz_e, zz_s (by omega) (by omega), el2, b2]
    omega
  have hh := m_hf h hr hi (m (410 + 11 * i)) (m (410 + 11 * i) + m 2) (by omega)
  rw [ea] at hh
  have et : tg m i 0 = !hf m i (m (410 + 11 * i)).toInt ((m (410 + 11 * i)).toInt + (m 2).toInt) := by unfold tg; rw [e0]
  have mid : ∀ g : Int32, (g = 0 ∨ g = 1) → ff_X7_cuts_j29 M y (nI i) (m (410 + 11 * i)) g = some (g, wm M y (upd (upd (upd (upd (upd m (410 + 11 * i) (m (410 + 11 * i) + m 2 + r)) 10 (m 10 + r)) 8 (m 8 + (if g = 0 then 1 else 0))) 9 (m 9 + (if g = 0 then m 2 else 0))) (412 + 11 * i) (m (412 + 11 * i) + (if g = 0 then 0 else 1)))) := by
    intro g hg
    have H1 := Mo_w h (upd m (410 + 11 * i) (m (410 + 11 * i) + m 2 + r))
    have H2 := Mo_w h (upd (upd m (410 + 11 * i) (m (410 + 11 * i) + m 2 + r)) 10 (m 10 + r))
    have u10 : upd m (410 + 11 * i) (m (410 + 11 * i) + m 2 + r) 10 = m 10 := upd_n (by omega)
    have s10 := s_m H1 (i := 10) (n := 10) rfl (by omega) (m 10 + r)
    have u8 : upd (upd m (410 + 11 * i) (m (410 + 11 * i) + m 2 + r)) 10 (m 10 + r) 8 = m 8 := by rw [upd_n (by omega), upd_n (by omega)]
    simp only [ff_X7_cuts_j29, n_m h, q3 h, q2 h, c_m h, m_left h hi, r1, pu2 h hi, n_m H1, q10 H1, u10, s10, wm_wm, n_m H2, q8 H2, u8, Option.bind_some]
    have fin : ∀ v : Int32, ff_X7_cuts_j99 (wm M y (upd (upd m (410 + 11 * i) (m (410 + 11 * i) + m 2 + r)) 10 (m 10 + r))) y (nI i) g v (m 8) 8 (y + 1) = some (g, wm M y (upd (upd (upd (upd (upd m (410 + 11 * i) (m (410 + 11 * i) + m 2 + r)) 10 (m 10 + r)) 8 (m 8 + v)) 9 (m 9 + (if g = 0 then m 2 else 0))) (412 + 11 * i) (m (412 + 11 * i) + (if g = 0 then 0 else 1)))) := by
      intro v
      have s8 := s_m H2 (i := 8) (n := 8) rfl (by omega) (m 8 + v)
      rw [wm_wm] at s8
      have H3 := Mo_w h (upd (upd (upd m (410 + 11 * i) (m (410 + 11 * i) + m 2 + r)) 10 (m 10 + r)) 8 (m 8 + v))
      have u9 : (upd (upd (upd m (410 + 11 * i) (m (410 + 11 * i) + m 2 + r)) 10 (m 10 + r)) 8 (m 8 + v)) 9 = m 9 := by rw [upd_n (by omega), upd_n (by omega), upd_n (by omega)]
      have u2 : (upd (upd (upd m (410 + 11 * i) (m (410 + 11 * i) + m 2 + r)) 10 (m 10 + r)) 8 (m 8 + v)) 2 = m 2 := by rw [upd_n (by omega), upd_n (by omega), upd_n (by omega)]
      simp only [ff_X7_cuts_j99, s8, n_m H3, q9 H3, q2 H3, u9, u2, Option.bind_some]
      have fin2 : ∀ w : Int32, ff_X7_cuts_j123 (wm M y (upd (upd (upd m (410 + 11 * i) (m (410 + 11 * i) + m 2 + r)) 10 (m 10 + r)) 8 (m 8 + v))) y (nI i) g w (m 9) 9 (y + 1) = some (g, wm M y (upd (upd (upd (upd (upd m (410 + 11 * i) (m (410 + 11 * i) + m 2 + r)) 10 (m 10 + r)) 8 (m 8 + v)) 9 (m 9 + w)) (412 + 11 * i) (m (412 + 11 * i) + (if g = 0 then 0 else 1)))) := by
        intro w
        have s9 := s_m H3 (i := 9) (n := 9) rfl (by omega) (m 9 + w)
        rw [wm_wm] at s9
        have H4 := Mo_w h (upd (upd (upd (upd m (410 + 11 * i) (m (410 + 11 * i) + m 2 + r)) 10 (m 10 + r)) 8 (m 8 + v)) 9 (m 9 + w))
        have u4 : (upd (upd (upd (upd m (410 + 11 * i) (m (410 + 11 * i) + m 2 + r)) 10 (m 10 + r)) 8 (m 8 + v)) 9 (m 9 + w)) (412 + 11 * i) = m (412 + 11 * i) := by rw [upd_n (by omega), upd_n (by omega), upd_n (by omega), upd_n (by omega)]
        have hz : mm_bz g = some g := by
          rcases hg with rfl | rfl
          · exact zz_bz0
          · exact zz_bz1
        simp only [ff_X7_cuts_j123, ff_X7_cuts_j143, s9, c_m H4, of4 H4 hi, u4, pu4 H4 hi, hz, wm_wm, Option.bind_some]
        rcases hg with rfl | rfl
        · rw [if_pos rfl, if_pos rfl]
        · rw [if_neg (by decide), if_neg (by decide)]
      rcases hg with rfl | rfl
      · rw [if_pos rfl, if_pos rfl, fin2]
      · rw [if_neg (by decide), if_neg (by decide), fin2]
    rcases hg with rfl | rfl
    · rw [if_pos rfl, if_pos rfl, fin]
    · rw [if_neg (by decide), if_neg (by decide), fin]
  simp only [ff_X7_cuts, c_m h, of2 h hi, n_m h, q2 h, hh, Option.bind_some]
  have key : ∀ g : Int32, (g = 0 ∧ tg m i 0 = false ∨ g = 1 ∧ tg m i 0 = true) → ff_X7_cuts_j29 M y (nI i) (m (410 + 11 * i)) g = some ((if tg m i 0 then 1 else 0), wm M y (pc m i)) := by
    intro g hg
    rcases hg with ⟨rfl, ht⟩ | ⟨rfl, ht⟩
    · rw [mid 0 (Or.inl rfl), ht]
      have e : upd (upd (upd (upd (upd m (410 + 11 * i) (m (410 + 11 * i) + m 2 + r)) 10 (m 10 + r)) 8 (m 8 + 1)) 9 (m 9 + m 2)) (412 + 11 * i) (m (412 + 11 * i) + 0) = pc m i := by
        unfold pc
        rw [ht, es, er]
        show _ = upd (upd (upd (upd m (410 + 11 * i) (m (410 + 11 * i) + m 2 + r)) 10 (m 10 + r)) 8 (m 8 + 1)) 9 (m 9 + m 2)
        funext j
        by_cases hj : j = 412 + 11 * i
        · subst hj
          rw [upd_s, Int32.add_zero, upd_n (by omega), upd_n (by omega), upd_n (by omega), upd_n (by omega)]
        · rw [upd_n hj]
      rw [← e]
      rfl
    · rw [mid 1 (Or.inr rfl), ht]
      have e : upd (upd (upd (upd (upd m (410 + 11 * i) (m (410 + 11 * i) + m 2 + r)) 10 (m 10 + r)) 8 (m 8 + 0)) 9 (m 9 + 0)) (412 + 11 * i) (m (412 + 11 * i) + 1) = pc m i := by
        unfold pc
        rw [ht, es, er]
        show _ = upd (upd (upd m (410 + 11 * i) (m (410 + 11 * i) + m 2 + r)) (412 + 11 * i) (m (412 + 11 * i) + 1)) 10 (m 10 + r)
        funext j
        simp only [upd, Int32.add_zero]
        by_cases h1 : j = 412 + 11 * i
        · rw [if_pos h1, if_neg (by omega), if_pos h1]
        · rw [if_neg h1]
          by_cases h2 : j = 9
          · rw [if_pos h2, if_neg (by omega), if_neg (by omega), if_neg (by omega), h2]
          · rw [if_neg h2]
            by_cases h3 : j = 8
            · rw [if_pos h3, if_neg (by omega), if_neg (by omega), if_neg (by omega), h3]
            · rw [if_neg h3, if_neg h1]
      rw [← e]
      rfl
  cases hb : hf m i (m (410 + 11 * i)).toInt ((m (410 + 11 * i)).toInt + (m 2).toInt) with
  | false =>
    show ff_X7_cuts_j29 M y (nI i) (m (410 + 11 * i)) 1 = _
    exact key 1 (Or.inr ⟨rfl, by rw [et, hb]; rfl⟩)
  | true =>
    rw [if_pos rfl, if_neg (by decide)]
    exact key 0 (Or.inl ⟨rfl, by rw [et, hb]; rfl⟩)
end MC
section ML
variable {M : mm_M} {y : Nat} {k m : Nat → Int32} {n : Int}
theorem m_lays (h : Mo M y m) (R : PR k m) (hI : IP n k) {a b : Nat} (ha : (a : Int) < (k 0).toInt) (hb : (b : Int) < (k 1).toInt) :
    ∃ m', ff_X7_lays M y (nI (a + (k 0).toInt.toNat * b)) = some (Int32.ofInt (nf k (wn k (nI a) (nI b)).toInt), wm M y m') ∧
      PR (if nf k (wn k (nI a) (nI b)).toInt = -1 then k else upd (pB k (Int32.ofInt (nf k (wn k (nI a) (nI b)).toInt))) (164 + (12 * b + a)) (Int32.ofInt (nf k (wn k (nI a) (nI b)).toInt))) m' := by
  obtain ⟨hp, hl, hr, hh⟩ := hI
  have hp' := hp
  unfold Rp at hp'
  have hpm := PR_Rp R hp
  have hrm := PR_Rs R hr
  have ew : (m 0).toInt = ((k 0).toInt.toNat : Nat) := by rw [R.lo 0 (by omega)]; omega
  have eh : (m 1).toInt = ((k 1).toInt.toNat : Nat) := by rw [R.lo 1 (by omega)]; omega
  have hin : ins k (nI a) (nI b) := ins_n (w := (k 0).toInt.toNat) (h := (k 1).toInt.toNat) (by omega) (by omega) (by omega) (by omega) hp
  have hw := wn_r hp hl hin
  have hlt := cx_lt (w := (k 0).toInt.toNat) (h := (k 1).toInt.toNat) (x := a) (y := b) (by omega) (by omega) (by omega) (by omega)
  have e1 := m_want h hpm ew eh (a := a) (b := b) (by omega) (by omega)
  rw [PR_wn R hp ha hb] at e1
  obtain ⟨e2, e3, e4⟩ := m_near h hrm hw.1 hw.2
  rw [PR_nf R hr] at e2 e3 e4
  rw [PR_av R hr] at e3
  simp only [ff_X7_lays, c_m h, e1, e2, Option.bind_some]
  generalize nf k (wn k (nI a) (nI b)).toInt = f at *
  by_cases hf : f = -1
  · subst hf
    refine ⟨m, ?_, by rw [if_pos rfl]; exact R⟩
    rw [if_pos (by decide), wm_self h]
    rfl
  · rw [if_neg hf]
    rcases e3 with ⟨q, -⟩ | ⟨s, rfl, hs, -⟩
    · exact absurd q hf
    · have es := zz_nI s (by omega)
      have eo : Int32.ofInt (s : Int) = nI s := rfl
      rw [eo]
      have hav : av k (nI s).toInt.toNat := by rw [es]; simp only [Int.toNat_natCast]; exact hs
      have hB := PR_pB R hp hr (s := nI s) (by omega) (by omega) hav
      have hpB := (IP_pB (n := n) ⟨hp, hl, hr, hh⟩ (s := nI s) (by omega) (by omega) hav).1
      have ew2 : (pB k (nI s) 0) = k 0 := pB_n (by omega) (by omega) (by omega) (by omega)
      have ew3 : (pB k (nI s) 1) = k 1 := pB_n (by omega) (by omega) (by omega) (by omega)
      have hfin := PR_ld hB hpB (x := a) (y := b) (by rw [ew2]; exact ha) (by rw [ew3]; exact hb) (nI s)
      rw [ew2] at hfin
      refine ⟨_, ?_, hfin⟩
      have e308 := ixm 308 308 z308 (by omega) (n := s) (by omega)
      have hmh : m (308 + s) = k (308 + s) := R.hi _ (by omega) (by omega)
      have hlast : ∀ m1, ff_X7_lays_j71 (wm M y m1) y (nI (a + (k 0).toInt.toNat * b)) (nI s) = some (nI s, wm M y (upd m1 (164 + (a + (k 0).toInt.toNat * b)) (nI s))) := by
        intro m1
        have H1 := Mo_w h m1
        simp only [ff_X7_lays_j71, n_m H1, s_m H1 (ixm 164 164 z164 (by omega) (n := a + (k 0).toInt.toNat * b) (by omega)) (by omega), wm_wm, Option.bind_some]
      rw [if_neg (by rw [zz_e, zm1]; omega)]
      simp only [n_m h, q_m h e308 (by omega), s_m h e308 (show 308 + s < 518 by omega), c_m h, Option.bind_some]
      have hsn : (nI s).toInt.toNat = s := by omega
      unfold pB
      rw [hsn]
      by_cases hc : 0 < (m (308 + s)).toInt
      · rw [if_neg (by rw [zz_le, z0]; omega), if_pos hc]
        exact hlast _
      · rw [if_pos (by rw [zz_le, z0]; omega), if_neg hc]
        have hex := av_gv (k := k) (s := nI s) (by omega) hav (by rw [hsn, ← hmh]; exact hc)
        have hexm : ∃ i, i < 10 ∧ gv m (nI s) i = true := by
          obtain ⟨i, i1, i2⟩ := hex
          exact ⟨i, i1, by rw [PR_gv R hr _ i1]; exact i2⟩
        rw [(m_source h hrm (nI s)).1 hexm, Option.bind_some]
        obtain ⟨i1, i2, -⟩ := fi_sp hexm
        generalize fi (gv m (nI s)) 10 = i at *
        simp only [gv, decide_eq_true_eq] at i2
        obtain ⟨n1, n2, n3⟩ := fi_sp (cn_pos.mp i2.2)
        generalize fi (tg m i) (ta m i) = t at *
        have hta := ta_le hrm i1
        have := it_for (body := mm_u2 (ff_X7_lays_l56 y (nI (a + (k 0).toInt.toNat * b)) (nI s) (nI i))) (fun q => ((if q = t + 1 then (1 : Int32) else 0), wm M y (pcs m i q))) (t + 1) ((1 : Int32), wm M y (pcs m i (t + 1))) (by
          intro q hq
          obtain ⟨p1, p2⟩ := pcs_t hrm i1 (n := q) (by omega)
          have H1 := Mo_w h (pcs m i q)
          have hc2 := m_cuts H1 (pcs_b hrm i1 q (by omega)).2 i1 p1
          show ff_X7_lays_l56 _ _ _ _ (if q = t + 1 then (1 : Int32) else 0) (wm M y (pcs m i q)) = _
          rw [if_neg (by omega)]
          simp only [ff_X7_lays_l56, c_m H1, hc2, p2, wm_wm, Option.bind_some, if_true]
          show some (Sum.inl ((if tg m i q = true then (1 : Int32) else 0), wm M y (pc (pcs m i q) i))) = _
          congr 3
          by_cases hqt : q = t
          · subst hqt
            rw [n2, if_pos rfl, if_pos rfl]
          · rw [n3 q (by omega), if_neg (by decide), if_neg (by omega)]) (by
          show ff_X7_lays_l56 _ _ _ _ (if t + 1 = t + 1 then (1 : Int32) else 0) (wm M y (pcs m i (t + 1))) = _
          rw [if_pos rfl]
          simp only [ff_X7_lays_l56]
          rw [if_neg (by decide)]) mm_fu (mm_fu_gt (by omega))
        rw [show ((if 0 = t + 1 then (1 : Int32) else 0), wm M y (pcs m i 0)) = ((0 : Int32), M) by
          rw [if_neg (by omega)]
          congr 1
          exact wm_self h] at this
        rw [this, Option.bind_some]
        exact hlast _
end ML
