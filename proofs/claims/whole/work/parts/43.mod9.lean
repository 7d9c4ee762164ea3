/-! the reference: a new floor, the hand emptied, texts, patterns -/
theorem cp2_u {q : Nat} {f g : Nat → Int32} {t j : Nat} {v : Int32} (h : j < q ∨ q + t ≤ j) : upd (cp2 q f g t) j v = cp2 q f (upd g j v) t := by
  funext i
  unfold upd cp2
  by_cases hj : i = j
  · rw [if_pos hj, if_neg (by omega)]
    show v = if i = j then v else g i
    rw [if_pos hj]
  · rw [if_neg hj]
    by_cases hj2 : q ≤ i ∧ i < q + t
    · rw [if_pos hj2, if_pos hj2]
    · rw [if_neg hj2, if_neg hj2]
      show g i = if i = j then v else g i
      rw [if_neg hj]
section MB
variable {M : mm_M} {y : Nat} {m : Nat → Int32}
def pBm (m : Nat → Int32) (c r : Int32) : Nat → Int32 := cp2 164 (fun _ => -1) (cp2 20 (fun _ => 50) (upd (upd m 0 c) 1 r) 144) 144
theorem m_begin (h : Mo M y m) (c r : Int32) : ff_X7_beginWith M y c r = some (wm M y (pBm m c r)) := by
  have H1 := Mo_w h (upd m 0 c)
  have H2 := Mo_w h (upd (upd m 0 c) 1 r)
  have := it_for (body := mm_u2 (ff_X7_beginWith_l16 y)) (fun t => (nI t, wm M y (cp2 164 (fun _ => -1) (cp2 20 (fun _ => 50) (upd (upd m 0 c) 1 r) t) t))) 144 (nI 144, wm M y (pBm m c r)) (by
    intro t ht
    have et := zz_nI t (by omega)
    have H3 := Mo_w h (cp2 164 (fun _ => -1) (cp2 20 (fun _ => 50) (upd (upd m 0 c) 1 r) t) t)
    have e1 : upd (cp2 164 (fun _ => -1) (cp2 20 (fun _ => 50) (upd (upd m 0 c) 1 r) t) t) (20 + t) 50 = cp2 164 (fun _ => -1) (cp2 20 (fun _ => 50) (upd (upd m 0 c) 1 r) (t + 1)) t := by
      rw [cp2_u (by omega)]
      have := cp2_s 20 (fun _ => (50 : Int32)) (upd (upd m 0 c) 1 r) t
      rw [← this]
    have e2 : upd (cp2 164 (fun _ => -1) (cp2 20 (fun _ => 50) (upd (upd m 0 c) 1 r) (t + 1)) t) (164 + t) (-1) = cp2 164 (fun _ => -1) (cp2 20 (fun _ => 50) (upd (upd m 0 c) 1 r) (t + 1)) (t + 1) := by
      have := cp2_s 164 (fun _ => (-1 : Int32)) (cp2 20 (fun _ => 50) (upd (upd m 0 c) 1 r) (t + 1)) t
      rw [← this]
    have H4 := Mo_w h (cp2 164 (fun _ => -1) (cp2 20 (fun _ => 50) (upd (upd m 0 c) 1 r) (t + 1)) t)
    have s1 := s_m H3 (ixm 20 20 z20 (by omega) (n := t) (by omega)) (show 20 + t < 518 by omega) 50
    rw [e1, wm_wm] at s1
    have s2 := s_m H4 (ixm 164 164 z164 (by omega) (n := t) (by omega)) (show 164 + t < 518 by omega) (-1)
    rw [e2, wm_wm] at s2
    show ff_X7_beginWith_l16 y (nI t) _ = _
    simp only [ff_X7_beginWith_l16, n_m H3, s1, n_m H4, s2, Option.bind_some]
    rw [if_neg (by rw [zz_le, et, z144]; omega), nI_1]) (by
    show ff_X7_beginWith_l16 y (nI 144) _ = _
    simp only [ff_X7_beginWith_l16]
    rw [if_pos (by decide)]
    rfl) mm_fu (mm_fu_gt (by omega))
  rw [cp2_0, cp2_0] at this
  have s0 := s_m h (i := 0) (n := 0) rfl (by omega) c
  have s1 := s_m H1 (i := 1) (n := 1) rfl (by omega) r
  rw [wm_wm] at s1
  simp only [ff_X7_beginWith, n_m h, s0, n_m H1, s1, show mm_it (mm_u2 (ff_X7_beginWith_l16 y)) mm_fu ((0 : Int32), wm M y (upd (upd m 0 c) 1 r)) = _ from this, Option.bind_some]
  rfl
theorem m_empty (h : Mo M y m) (a b c : Int32) : mm_it (mm_u2 (ff_X7_set_l92 y a b c)) mm_fu ((0 : Int32), M) = some (nI 100, wm M y (cp2 308 (fun _ => 0) m 100)) := by
  have := it_for (body := mm_u2 (ff_X7_set_l92 y a b c)) (fun t => (nI t, wm M y (cp2 308 (fun _ => 0) m t))) 100 (nI 100, wm M y (cp2 308 (fun _ => 0) m 100)) (by
    intro t ht
    have et := zz_nI t (by omega)
    have H3 := Mo_w h (cp2 308 (fun _ => 0) m t)
    have e1 := cp2_s 308 (fun _ => (0 : Int32)) m t
    have s1 := s_m H3 (ixm 308 308 z308 (by omega) (n := t) (by omega)) (show 308 + t < 518 by omega) 0
    rw [wm_wm] at s1
    show ff_X7_set_l92 y a b c (nI t) _ = _
    simp only [ff_X7_set_l92, n_m H3, s1, Option.bind_some]
    rw [if_neg (by rw [zz_le, et, z100]; omega), nI_1, ← e1]) (by
    show ff_X7_set_l92 y a b c (nI 100) _ = _
    simp only [ff_X7_set_l92]
    rw [if_pos (by decide)]) mm_fu (mm_fu_gt (by omega))
  rw [cp2_0, wm_self h] at this
  exact this
end MB
section FT
variable {M : mm_M} {y c tl : Nat} {m sp sv tx rd : Nat → Int32} {rc : Int32}
theorem m_pat8 (h : Md M y m sp sv tx rd c tl (nI 0 + rc)) {n : Nat} (hn : n ≤ 8) (ern : nI 0 + rc = nI n) : mm_it (mm_u2 (ff_X7_pattern_l34 y)) mm_fu ((0 : Int32), M) = some (nI 8, wm M y (cp2 12 (fun j => if j < n then rd j else 0) m 8)) := by
  rw [ern] at h
  have en := zz_nI n (by omega)
  have := it_for (body := mm_u2 (ff_X7_pattern_l34 y)) (fun t => (nI t, wm M y (cp2 12 (fun j => if j < n then rd j else 0) m t))) 8 (nI 8, wm M y (cp2 12 (fun j => if j < n then rd j else 0) m 8)) (by
    intro t ht
    have et := zz_nI t (by omega)
    have h3 := Md_wm h (cp2 12 (fun j => if j < n then rd j else 0) m t)
    have e1 := cp2_s 12 (fun j => if j < n then rd j else 0) m t
    have s1 := fun v => s_m h3.mo (ixm 12 12 z12 (by omega) (n := t) (by omega)) (show 12 + t < 518 by omega) v
    show ff_X7_pattern_l34 y (nI t) _ = _
    simp only [ff_X7_pattern_l34, ff_X7_pattern_j66, n_m h3.mo, d_rc h3, d_r6 h3, s1, wm_wm, Option.bind_some, nI_1]
    rw [if_neg (by rw [zz_le, et, z8]; omega), ← e1]
    by_cases hc : n ≤ t
    · rw [if_pos (by rw [zz_le]; omega), if_neg (by omega)]
    · rw [if_neg (by rw [zz_le]; omega), if_pos (by omega), rA h3.2.2.2.2.2 (by omega) (by omega), Option.bind_some, et, Int.toNat_natCast]) (by
    show ff_X7_pattern_l34 y (nI 8) _ = _
    simp only [ff_X7_pattern_l34]
    rw [if_pos (by decide)]) mm_fu (mm_fu_gt (by omega))
  rw [cp2_0, wm_self h.mo] at this
  exact this
theorem d_type (h : Md M y m sp sv tx rd c tl rc) (ht : tl < 80) (x : Int32) (h0 : 32 ≤ x.toInt) (h1 : x.toInt ≤ 126) : ∃ M', ff_X7_type M y x = some (nI (tl + 1), M') ∧ Md M' y m sp sv (upd tx tl x) rd c (tl + 1) rc ∧ Fy y M M' := by
  have et := zz_nI tl (by omega)
  have h2 := d_txA h (upd tx tl x)
  obtain ⟨M', p1, p2, p3⟩ := d_wtl h2 (v := nI tl + 1) (t' := tl + 1) (nI_1 tl)
  have w := wA (v := x) (i := nI tl) h.2.2.2.2.1 (by omega) (by omega)
  rw [et, Int.toNat_natCast] at w
  refine ⟨M', ?_, p2, Fy_tr (Fy_up (by omega) (by omega)) p3⟩
  simp only [ff_X7_type, m_in, d_tl h, d_r4 h, w, d_tl h2, p1, d_tl p2, Option.bind_some]
  rw [if_pos (show (32 : Int32).toInt ≤ x.toInt ∧ x.toInt ≤ (126 : Int32).toInt from ⟨h0, h1⟩), if_neg (by decide), if_neg (by rw [zz_e, z80]; omega)]
theorem d_clear (h : Md M y m sp sv tx rd c tl rc) : ∃ M', ff_X7_clearText M y = some (nI tl, M') ∧ Md M' y m sp sv tx rd c 0 rc ∧ Fy y M M' := by
  obtain ⟨M', p1, p2, p3⟩ := d_wtl h (v := 0) (t' := 0) rfl
  refine ⟨M', ?_, p2, p3⟩
  simp only [ff_X7_clearText, d_tl h, p1, Option.bind_some]
/-- reading the text -/
theorem d_fault (h : Md M y m sp sv tx rd c tl rc) (ht : tl ≤ 80) : ∃ r M' rd' rc', ff_X7_faultNow M y = some (r, M') ∧ Md M' y m sp sv tx rd' c tl rc' ∧ Fy y M M' ∧ FR tx tl r ∧
    (r = -1 → ∃ d e, au tx tl = some (d, e) ∧ 0 < d ∧ rc' = nI (e + 1) ∧ ∀ j, j ≤ e → rd' j = vv tx tl j) := by
  have etl := zz_nI tl (by omega)
  obtain ⟨M0, p1, p2, p3⟩ := d_wrc h 0
  obtain ⟨e, g1, g2⟩ := it_inv (body := mm_u3 (ff_X7_faultNow_l9 y)) (fun t (s : Int32 × Int32 × mm_M) => ∃ d e M1 rd1, s = (nI d, nI t, M1) ∧ au tx t = some (d, e) ∧ Md M1 y m sp sv tx rd1 c tl (nI (e + (if d = 0 then 0 else 1))) ∧ Fy y M M1 ∧ ∀ j, j < e + (if d = 0 then 0 else 1) → rd1 j = vv tx t j)
    (fun x => (∃ d e M1 rd1, x = .inl (nI d, nI tl, M1) ∧ au tx tl = some (d, e) ∧ Md M1 y m sp sv tx rd1 c tl (nI (e + (if d = 0 then 0 else 1))) ∧ Fy y M M1 ∧ ∀ j, j < e + (if d = 0 then 0 else 1) → rd1 j = vv tx tl j) ∨
      (∃ i M1 rd1 rc1, x = .inr (nI i, M1) ∧ i < tl ∧ au tx i ≠ none ∧ au tx (i + 1) = none ∧ Md M1 y m sp sv tx rd1 c tl rc1 ∧ Fy y M M1)) tl (by
      rintro t s hlt ⟨d, e, M1, rd1, rfl, hau, h1, hF, hrd⟩
      have et := zz_nI t (by omega)
      obtain ⟨d2, e7⟩ := au_r hau
      have ed := zz_nI d (by omega)
      have hs := au_s hau
      have hv := vv_s hau
      have rt := rA (i := nI t) h1.2.2.2.2.1 (by omega) (by omega)
      rw [et, Int.toNat_natCast] at rt
      show (∃ s', ff_X7_faultNow_l9 y (nI d) (nI t) M1 = _ ∧ _) ∨ (∃ x, ff_X7_faultNow_l9 y (nI d) (nI t) M1 = _ ∧ _)
      simp only [ff_X7_faultNow_l9, ff_X7_faultNow_j76, d_tl h1, d_r4 h1, rt, m_in, d_rc h1, Option.bind_some]
      rw [if_neg (by rw [zz_le]; omega)]
      have hfail : au tx (t + 1) = none → (∃ x, some ((Sum.inr (Sum.inr (nI t, M1))) : (Int32 × Int32 × mm_M) ⊕ ((Int32 × Int32 × mm_M) ⊕ (Int32 × mm_M))) = some (.inr x) ∧ ((∃ d e M1 rd1, x = .inl (nI d, nI tl, M1) ∧ au tx tl = some (d, e) ∧ Md M1 y m sp sv tx rd1 c tl (nI (e + (if d = 0 then 0 else 1))) ∧ Fy y M M1 ∧ ∀ j, j < e + (if d = 0 then 0 else 1) → rd1 j = vv tx tl j) ∨
        (∃ i M1 rd1 rc1, x = .inr (nI i, M1) ∧ i < tl ∧ au tx i ≠ none ∧ au tx (i + 1) = none ∧ Md M1 y m sp sv tx rd1 c tl rc1 ∧ Fy y M M1))) := fun hn =>
        ⟨_, rfl, Or.inr ⟨t, M1, rd1, _, rfl, hlt, by rw [hau]; simp, hn, h1, hF⟩⟩
      by_cases hd : (48 : Int32).toInt ≤ (tx t).toInt ∧ (tx t).toInt ≤ (57 : Int32).toInt
      · rw [if_pos hd, if_neg (by decide)]
        have hd' : 48 ≤ (tx t).toInt ∧ (tx t).toInt ≤ 57 := hd
        have hne : ¬ (tx t).toInt = 44 := by omega
        rw [if_neg hne] at hv
        by_cases hd2 : d < 2
        · rw [if_pos ⟨hd'.1, hd'.2, hd2⟩] at hs
          rw [if_neg (by rw [zz_le, z2]; omega)]
          refine Or.inl ?_
          simp only [ff_X7_faultNow_j77, ff_X7_faultNow_j104]
          rw [if_neg (by decide), if_neg (by decide)]
          simp only [d_rc h1, Option.bind_some]
          -- the count first
          have hcnt : ∀ v : Int32, v = (if d = 0 then 1 else 0) → ∃ M2, mm_pI 7 M1 y 7 (nI (e + (if d = 0 then 0 else 1)) + v) = some M2 ∧ Md M2 y m sp sv tx rd1 c tl (nI (e + 1)) ∧ Fy y M1 M2 := by
            intro v hvv
            obtain ⟨M2, a1, a2, a3⟩ := d_wrc h1 (nI (e + (if d = 0 then 0 else 1)) + v)
            have : nI (e + (if d = 0 then 0 else 1)) + v = nI (e + 1) := by
              rw [hvv]
              split
              · rw [Nat.add_zero, nI_1]
              · rw [Int32.add_zero]
            rw [this] at a1 a2 ⊢
            exact ⟨M2, a1, a2, a3⟩
          have hidx : nI (e + 1) - 1 = nI e := zz_nn (by rw [zz_s (by rw [zz_nI _ (by omega), z1]; omega) (by rw [zz_nI _ (by omega), z1]; omega), zz_nI _ (by omega), z1]; omega)
          have ee := zz_nI e (by omega)
          -- then the value
          have hfin : ∀ (M2 : mm_M) (v : Int32), Md M2 y m sp sv tx rd1 c tl (nI (e + 1)) → Fy y M1 M2 → v + tx t - 48 = vv tx (t + 1) e → ∃ s', ff_X7_faultNow_j140 M2 y (nI d) (nI t) 1 v (nI e) (y + 5) = some (.inl s') ∧ ∃ d e M1 rd1, s' = (nI d, nI (t + 1), M1) ∧ au tx (t + 1) = some (d, e) ∧ Md M1 y m sp sv tx rd1 c tl (nI (e + (if d = 0 then 0 else 1))) ∧ Fy y M M1 ∧ ∀ j, j < e + (if d = 0 then 0 else 1) → rd1 j = vv tx (t + 1) j := by
            intro M2 v h2 hF2 hv2
            have rt2 := rA (i := nI t) h2.2.2.2.2.1 (by omega) (by omega)
            rw [et, Int.toNat_natCast] at rt2
            have w2 := wA (v := v + tx t - 48) (i := nI e) h2.2.2.2.2.2 (by omega) (by omega)
            rw [ee, Int.toNat_natCast] at w2
            simp only [ff_X7_faultNow_j140, ff_X7_faultNow_j151, ff_X7_faultNow_j162, d_r4 h2, rt2, w2, Option.bind_some]
            rw [if_neg (by decide), nI_1, nI_1]
            refine ⟨_, rfl, d + 1, e, _, upd rd1 e (v + tx t - 48), rfl, hs, by rw [if_neg (by omega)]; exact d_rdA h2 _, Fy_tr hF (Fy_tr hF2 (Fy_up (by omega) (by omega))), fun j hj => ?_⟩
            rw [if_neg (by omega)] at hj
            by_cases hje : j = e
            · rw [hje, upd_s, hv2]
            · rw [upd_n hje, hv, upd_n hje, hrd j (by omega)]
          have hve : vv tx (t + 1) e = (if d = 0 then tx t - 48 else vv tx t e * 10 + (tx t - 48)) := by rw [hv, upd_s]
          by_cases hd0 : d = 0
          · subst hd0
            obtain ⟨M2, a1, a2, a3⟩ := hcnt 1 (by rw [if_pos rfl])
            rw [if_pos rfl, if_pos (show nI 0 = 0 from rfl)]
            rw [if_pos rfl] at a1
            rw [a1]
            simp only [d_r6 a2, d_rc a2, hidx, Option.bind_some]
            rw [if_pos (show nI 0 = 0 from rfl)]
            exact hfin M2 0 a2 a3 (by rw [hve, if_pos rfl, Int32.zero_add])
          · obtain ⟨M2, a1, a2, a3⟩ := hcnt 0 (by rw [if_neg hd0])
            have hdn : ¬ nI d = 0 := by rw [zz_e, z0]; omega
            rw [if_neg hdn]
            rw [if_neg hd0] at a1 ⊢
            rw [a1]
            have rr := rA (i := nI e) a2.2.2.2.2.2 (by omega) (by omega)
            rw [ee, Int.toNat_natCast] at rr
            simp only [d_r6 a2, d_rc a2, hidx, rr, Option.bind_some]
            rw [if_neg hdn]
            refine hfin M2 _ a2 a3 ?_
            rw [hve, if_neg hd0, hrd e (by rw [if_neg hd0]; omega), Int32.mul_comm, Int32.sub_eq_add_neg, Int32.sub_eq_add_neg, Int32.add_assoc]
        · rw [if_neg (by omega), if_neg (by omega)] at hs
          rw [if_pos (by rw [zz_le, z2]; omega)]
          refine Or.inr ?_
          simp only [ff_X7_faultNow_j77]
          rw [if_pos trivial]
          exact hfail hs
      · have hd' : ¬ (48 ≤ (tx t).toInt ∧ (tx t).toInt ≤ 57) := hd
        rw [if_neg hd, if_pos rfl]
        rw [if_neg (fun q => hd' ⟨q.1, q.2.1⟩)] at hs
        by_cases hcm : (tx t).toInt = 44 ∧ 0 < d ∧ e < 7
        · rw [if_pos hcm] at hs
          rw [if_pos (by rw [zz_e, z44]; exact hcm.1), if_neg (by rw [zz_le, z0]; omega), if_neg (by rw [zz_le, z8, if_neg (by omega), zz_nI _ (by omega)]; omega)]
          rw [if_pos hcm.1] at hv
          refine Or.inl ?_
          simp only [ff_X7_faultNow_j77, ff_X7_faultNow_j151, ff_X7_faultNow_j162]
          rw [if_neg (by decide), if_pos trivial, if_pos trivial, nI_1]
          refine ⟨_, rfl, 0, e + 1, M1, rd1, rfl, hs, ?_, hF, fun j hj => ?_⟩
          · rw [if_neg (show ¬ d = 0 by omega)] at h1
            rw [if_pos rfl]
            exact h1
          · rw [if_pos rfl] at hj
            rw [hv]
            exact hrd j (by rw [if_neg (by omega)]; omega)
        · rw [if_neg hcm] at hs
          refine Or.inr ?_
          simp only [ff_X7_faultNow_j77]
          by_cases c1 : tx t = 44
          · rw [if_pos c1]
            rw [zz_e, z44] at c1
            by_cases c2 : nI d ≤ 0
            · rw [if_pos c2, if_pos trivial]
              exact hfail hs
            · rw [if_neg c2, if_pos (by rw [zz_le, z0] at c2; rw [zz_le, z8, if_neg (by omega), zz_nI _ (by omega)]; omega), if_pos trivial]
              exact hfail hs
          · rw [if_neg c1, if_pos trivial]
            exact hfail hs) (by
      rintro s ⟨d, e, M1, rd1, rfl, hau, h1, hF, hrd⟩
      refine ⟨_, ?_, Or.inl ⟨d, e, M1, rd1, rfl, hau, h1, hF, hrd⟩⟩
      show ff_X7_faultNow_l9 y (nI d) (nI tl) M1 = _
      simp only [ff_X7_faultNow_l9, d_tl h1, Option.bind_some]
      rw [if_pos (by rw [zz_le]; omega)]) ((0 : Int32), (0 : Int32), M0) mm_fu (mm_fu_gt (by omega)) ⟨0, 0, M0, rd, rfl, rfl, by rw [if_pos rfl]; exact p2, p3, fun j hj => by rw [if_pos rfl] at hj; omega⟩
  simp only [ff_X7_faultNow, p1, g1, Option.bind_some]
  rcases g2 with ⟨d, e, M1, rd1, rfl, hau, h1, hF, hrd⟩ | ⟨i, M1, rd1, rc1, rfl, hi, ha1, ha2, h1, hF⟩
  · obtain ⟨d2, e7⟩ := au_r hau
    by_cases hd0 : d = 0
    · subst hd0
      refine ⟨nI tl, M1, rd1, _, ?_, h1, hF, Or.inr ⟨0, e, hau, by rw [if_pos rfl]⟩, fun hr => ?_⟩
      · show (if nI 0 = 0 then (Option.bind (mm_gI 7 M1 y 5) fun v23 => some (v23, M1)) else some ((-1 : Int32), M1)) = _
        rw [if_pos (show nI 0 = 0 from rfl), d_tl h1, Option.bind_some]
      · rw [zz_e, zm1] at hr
        omega
    · refine ⟨-1, M1, rd1, _, ?_, h1, hF, Or.inr ⟨d, e, hau, by rw [if_neg hd0]⟩, fun _ => ⟨d, e, hau, by omega, by rw [if_neg hd0], fun j hj => hrd j (by rw [if_neg hd0]; omega)⟩⟩
      show (if nI d = 0 then (Option.bind (mm_gI 7 M1 y 5) fun v23 => some (v23, M1)) else some ((-1 : Int32), M1)) = _
      rw [if_neg (by rw [zz_e, z0, zz_nI _ (by omega)]; omega)]
  · refine ⟨nI i, M1, rd1, rc1, rfl, h1, hF, Or.inl ⟨i, hi, ha1, ha2, rfl⟩, fun hr => ?_⟩
    rw [zz_e, zm1, zz_nI _ (by omega)] at hr
    omega
end FT
