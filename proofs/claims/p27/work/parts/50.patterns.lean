/-! the law's patterns: a text is written, and taken -/
theorem se_l1 {α γ δ : Type} {f : α → Option γ} {g : δ → Option γ} {a : α} : Sum.elim (mm_u1 f) g (Sum.inl a) = f a := rfl
section PT
variable {n N : Int} {b u tl : Nat} {M : mm_M} {k tx : Nat → Int32} {pg : Nat → Nat → Int32}
theorem l_put (hC : Ci M b k u pg tl tx) (ht : tl < 80) {c : Int32} (hc : 32 ≤ c.toInt ∧ c.toInt ≤ 126) : ∃ M1, ff_L_put M b c = some (1, M1) ∧ Ci M1 b k u pg (tl + 1) (upd tx tl c) := by
  obtain ⟨M1, e1, C1⟩ := w_type hC ht hc
  refine ⟨M1, ?_, C1⟩
  simp only [ff_L_put, i_c hC, e1, mm_u2, Option.bind_some]
  rw [if_neg (by rw [zz_le, zz_nI _ (by omega), z0]; omega)]
theorem z9 : (9 : Int32).toInt = 9 := rfl
/-- one more digit, a comma -/
theorem t_dig {f : Nat → Int32} {m d c : Nat} (h : au f m = some (d, c)) (hd : d < 2) {a : Int32} (ha : 0 ≤ a.toInt ∧ a.toInt ≤ 9) : au (upd f m (48 + a)) (m + 1) = some (d + 1, c) ∧ vv (upd f m (48 + a)) (m + 1) = upd (vv f m) c (if d = 0 then a else vv f m c * 10 + a) := by
  have hf : ∀ j, j < m → upd f m (48 + a) j = f j := fun j hj => upd_n (by omega)
  have e1 := au_congr (n := m) hf
  have e2 := vv_congr (n := m) hf
  have ec : (48 + a).toInt = 48 + a.toInt := by rw [zz_a (by rw [z48]; omega) (by rw [z48]; omega), z48]
  have es : 48 + a - 48 = a := by rw [zz_e, zz_s (by rw [ec, z48]; omega) (by rw [ec, z48]; omega), ec, z48]; omega
  have h' : au (upd f m (48 + a)) m = some (d, c) := by rw [e1]; exact h
  constructor
  · rw [au_s h', upd_s, ec, if_pos (by omega)]
  · rw [vv_s h', upd_s, ec, if_neg (by omega), e2, es]
theorem t_com {f : Nat → Int32} {m d c : Nat} (h : au f m = some (d, c)) (hd : 0 < d) (hc : c < 7) : au (upd f m 44) (m + 1) = some (0, c + 1) ∧ vv (upd f m 44) (m + 1) = vv f m := by
  have hf : ∀ j, j < m → upd f m 44 j = f j := fun j hj => upd_n (by omega)
  have e1 := au_congr (n := m) hf
  have e2 := vv_congr (n := m) hf
  have h' : au (upd f m 44) m = some (d, c) := by rw [e1]; exact h
  constructor
  · rw [au_s h', upd_s, z44, if_neg (by omega), if_pos ⟨rfl, hd, hc⟩]
  · rw [vv_s h', upd_s, z44, if_pos rfl, e2]
/-- the shade that the law writes at place t -/
def Dt (x : Int32) (t : Nat) : Int32 := lw (x >>> (((3 : Int32) + nI t) &&& 31)) 3 + (if lw (x >>> (nI t &&& 31)) 2 = 0 then 10 * lw (x >>> (((2 : Int32) * nI t) &&& 31)) 10 else 0)
theorem Dt_r (x : Int32) (t : Nat) : 0 ≤ (Dt x t).toInt ∧ (Dt x t).toInt ≤ 99 := by
  have h1 := lw_r (x >>> (((3 : Int32) + nI t) &&& 31)) (n := 3) (by decide)
  have h2 := lw_r (x >>> (((2 : Int32) * nI t) &&& 31)) (n := 10) (by decide)
  rw [z3] at h1
  rw [z10] at h2
  unfold Dt
  split
  · have em : (10 * lw (x >>> (((2 : Int32) * nI t) &&& 31)) 10).toInt = 10 * (lw (x >>> (((2 : Int32) * nI t) &&& 31)) 10).toInt := by rw [zz_m (by rw [z10]; omega) (by rw [z10]; omega), z10]
    rw [zz_a (by omega) (by omega), em]
    omega
  · rw [Int32.add_zero]; omega
/-- the text when t shades stand -/
def TS (x : Int32) (f : Nat → Int32) (m t : Nat) : Prop := m ≤ 3 * t ∧ ((t = 0 ∧ m = 0) ∨ (0 < t ∧ ∃ d, 0 < d ∧ au f m = some (d, t - 1) ∧ ∀ j, j < t → vv f m j = Dt x j))
/-- a shade's last digit -/
theorem l_p74 (hC : Ci M b k u pg tl tx) {x x2 : Int32} {t d : Nat} (ht : t < 8) (htl : tl ≤ 3 * t + 2) (hau : au tx tl = some (d, t)) (hv : ∀ j, j < t → vv tx tl j = Dt x j) (hd : (d = 0 ∧ lw (x >>> (nI t &&& 31)) 2 ≠ 0) ∨ (d = 1 ∧ lw (x >>> (nI t &&& 31)) 2 = 0 ∧ vv tx tl t = lw (x >>> (((2 : Int32) * nI t) &&& 31)) 10)) (y0 y1 y2 : Int32) :
    ∃ M1 tx1, ff_L_patterns_j74 M b x x2 (nI t) y0 y1 y2 = some (.inl (y2 + (y1 + y0 + 1), nI (t + 1), M1)) ∧ Ci M1 b k u pg (tl + 1) tx1 ∧ TS x tx1 (tl + 1) (t + 1) := by
  have h1 := lw_r (x >>> (((3 : Int32) + nI t) &&& 31)) (n := 3) (by decide)
  rw [z3] at h1
  have ec : (48 + lw (x >>> (((3 : Int32) + nI t) &&& 31)) 3).toInt = 48 + (lw (x >>> (((3 : Int32) + nI t) &&& 31)) 3).toInt := by rw [zz_a (by rw [z48]; omega) (by rw [z48]; omega), z48]
  obtain ⟨M1, e1, C1⟩ := l_put hC (by omega) (c := 48 + lw (x >>> (((3 : Int32) + nI t) &&& 31)) 3) (by omega)
  obtain ⟨g1, g2⟩ := t_dig hau (by omega) (a := lw (x >>> (((3 : Int32) + nI t) &&& 31)) 3) (by omega)
  refine ⟨M1, _, ?_, C1, by omega, Or.inr ⟨by omega, d + 1, by omega, by rw [Nat.add_sub_cancel]; exact g1, fun j hj => ?_⟩⟩
  · simp only [ff_L_patterns_j74, l_low M _ (show 0 < (3 : Int32).toInt by decide), e1, mm_u2, Option.bind_some, nI_1]
  · rw [g2]
    by_cases hjt : j = t
    · subst hjt
      rw [upd_s]
      unfold Dt
      rcases hd with ⟨d0, q⟩ | ⟨d1, q, q2⟩
      · rw [if_pos d0, if_neg q, Int32.add_zero]
      · rw [if_neg (by omega), if_pos q, q2, Int32.mul_comm, Int32.add_comm]
    · rw [upd_n hjt]
      exact hv j (by omega)
theorem l_p41 (hC : Ci M b k u pg tl tx) {x x2 : Int32} {t : Nat} (ht : t < 8) (htl : tl ≤ 3 * t + 1) (hau : au tx tl = some (0, t)) (hv : ∀ j, j < t → vv tx tl j = Dt x j) (y0 y1 : Int32) {m : Nat} (hm : tl ≤ m + 1) (hy : y1 + y0 = nI tl) :
    ∃ M1 tx1 tl1, ff_L_patterns_j41 M b x x2 (nI t) y0 y1 = some (.inl (nI tl1, nI (t + 1), M1)) ∧ Ci M1 b k u pg tl1 tx1 ∧ TS x tx1 tl1 (t + 1) := by
  have h2 := lw_r (x >>> (((2 : Int32) * nI t) &&& 31)) (n := 10) (by decide)
  rw [z10] at h2
  simp only [ff_L_patterns_j41, l_low M _ (show 0 < (2 : Int32).toInt by decide), Option.bind_some]
  by_cases hc : lw (x >>> (nI t &&& 31)) 2 = 0
  · rw [if_pos hc]
    have ec : (48 + lw (x >>> (((2 : Int32) * nI t) &&& 31)) 10).toInt = 48 + (lw (x >>> (((2 : Int32) * nI t) &&& 31)) 10).toInt := by rw [zz_a (by rw [z48]; omega) (by rw [z48]; omega), z48]
    obtain ⟨M1, e1, C1⟩ := l_put hC (by omega) (c := 48 + lw (x >>> (((2 : Int32) * nI t) &&& 31)) 10) (by omega)
    obtain ⟨g1, g2⟩ := t_dig hau (by omega) (a := lw (x >>> (((2 : Int32) * nI t) &&& 31)) 10) (by omega)
    rw [if_pos rfl] at g2
    obtain ⟨M2, tx2, f1, C2, f2⟩ := l_p74 C1 (x := x) (x2 := x2) ht (by omega) g1 (fun j hj => by rw [g2, upd_n (by omega)]; exact hv j hj) (Or.inr ⟨rfl, hc, by rw [g2, upd_s]⟩) 1 y0 y1
    refine ⟨M2, tx2, tl + 1 + 1, ?_, C2, f2⟩
    simp only [l_low M _ (show 0 < (10 : Int32).toInt by decide), e1, mm_u2, Option.bind_some]
    rw [f1, show y1 + (y0 + 1 + 1) = nI (tl + 1 + 1) by rw [← Int32.add_assoc, ← Int32.add_assoc, hy, nI_1, nI_1]]
  · rw [if_neg hc]
    obtain ⟨M2, tx2, f1, C2, f2⟩ := l_p74 hC (x := x) (x2 := x2) ht (by omega) hau hv (Or.inl ⟨rfl, hc⟩) 0 y0 y1
    refine ⟨M2, tx2, tl + 1, ?_, C2, f2⟩
    rw [f1, show y1 + (y0 + 0 + 1) = nI (tl + 1) by rw [Int32.add_zero, ← Int32.add_assoc, hy, nI_1]]
theorem l_p19 (hC : Ci M b k u pg tl tx) {x x2 : Int32} {t : Nat} (ht : t < 8) (h2 : (t : Int) < x2.toInt) (hS : TS x tx tl t) :
    ∃ M1 tx1 tl1, ff_L_patterns_l19 b x x2 (nI tl) (nI t) M = some (.inl (nI tl1, nI (t + 1), M1)) ∧ Ci M1 b k u pg tl1 tx1 ∧ TS x tx1 tl1 (t + 1) := by
  have et := zz_nI t (by omega)
  obtain ⟨s1, s2⟩ := hS
  simp only [ff_L_patterns_l19]
  rw [if_neg (by rw [zz_le, et]; omega)]
  rcases s2 with ⟨rfl, rfl⟩ | ⟨h0, d, d1, d2, d3⟩
  · rw [if_pos (by decide)]
    exact l_p41 hC (x := x) (x2 := x2) ht (by omega) rfl (fun j hj => by omega) 0 (nI 0) (m := 0) (by omega) (Int32.add_zero _)
  · rw [if_neg (by rw [zz_le, et, z0]; omega)]
    obtain ⟨M1, e1, C1⟩ := l_put hC (by omega) (c := 44) (by decide)
    obtain ⟨g1, g2⟩ := t_com d2 d1 (by omega)
    rw [show t - 1 + 1 = t by omega] at g1
    obtain ⟨M2, tx2, tl2, f1, C2, f2⟩ := l_p41 C1 (x := x) (x2 := x2) ht (by omega) g1 (fun j hj => by rw [g2]; exact d3 j hj) 1 (nI tl) (m := tl) (by omega) (nI_1 tl)
    refine ⟨M2, tx2, tl2, ?_, C2, f2⟩
    rw [e1, Option.bind_some]
    exact f1
theorem l_patterns (hC : Ci M b k u pg tl tx) (hK : KJ N k u pg tl) (x : Int32) : ∃ M' k' u' pg' tl' tx', ff_L_patterns M b x = some (1, M') ∧ Ci M' b k' u' pg' tl' tx' ∧ KJ N k' u' pg' tl' := by
  have hlw := lw_r x (n := 8) (by decide)
  rw [z8] at hlw
  obtain ⟨m, em, -⟩ := nat_of (a := lw x 8) hlw.1
  have ex2 : (1 : Int32) + lw x 8 = nI (m + 1) := by
    rw [zz_e, zz_a (by rw [z1]; omega) (by rw [z1]; omega), z1, zz_nI _ (by omega), em]
    omega
  have en := zz_nI (m + 1) (by omega)
  obtain ⟨M0, c1, C0⟩ := w_clear hC
  -- the text is written
  obtain ⟨⟨z3', z4', M1⟩, g1, tl1, tx1, g2, g3, C1, S1⟩ := it_inv (body := mm_u3 (ff_L_patterns_l19 b x (nI (m + 1)))) (fun t (st : Int32 × Int32 × mm_M) => ∃ tl1 tx1, st.1 = nI tl1 ∧ st.2.1 = nI t ∧ Ci st.2.2 b k u pg tl1 tx1 ∧ TS x tx1 tl1 t) (fun e => ∃ tl1 tx1, e.1 = nI tl1 ∧ e.2.1 = nI (m + 1) ∧ Ci e.2.2 b k u pg tl1 tx1 ∧ TS x tx1 tl1 (m + 1)) (m + 1) (by
      rintro t ⟨a, c, M'⟩ ht ⟨tl1, tx1, q1, q2, q3, q4⟩
      dsimp only at q1 q2 q3
      subst q1; subst q2
      obtain ⟨M2, tx2, tl2, f1, C2, f2⟩ := l_p19 q3 (x := x) (x2 := nI (m + 1)) (t := t) (by omega) (by omega) q4
      exact Or.inl ⟨_, f1, tl2, tx2, rfl, rfl, C2, f2⟩) (by
      rintro ⟨a, c, M'⟩ ⟨tl1, tx1, q1, q2, q3, q4⟩
      dsimp only at q1 q2 q3
      subst q1; subst q2
      refine ⟨(nI tl1, nI (m + 1), M'), ?_, tl1, tx1, rfl, rfl, q3, q4⟩
      show ff_L_patterns_l19 b x (nI (m + 1)) (nI tl1) (nI (m + 1)) M' = _
      simp only [ff_L_patterns_l19]
      rw [if_pos (by rw [zz_le]; exact Int.le_refl _)]) (nI tl * 0, (0 : Int32), M0) mm_fu (mm_fu_gt (by omega)) ⟨0, tx, Int32.mul_zero, rfl, C0, by omega, Or.inl ⟨rfl, rfl⟩⟩
  dsimp only at g2 g3 C1
  subst g2; subst g3
  obtain ⟨s1, s2⟩ := S1
  obtain ⟨d, d1, d2, d3⟩ : ∃ d, 0 < d ∧ au tx1 tl1 = some (d, m) ∧ ∀ j, j < m + 1 → vv tx1 tl1 j = Dt x j := by
    rcases s2 with ⟨q, -⟩ | ⟨-, d, d1, d2, d3⟩
    · omega
    · exact ⟨d, d1, by rw [Nat.add_sub_cancel] at d2; exact d2, d3⟩
  have htl : tl1 ≤ 80 := by omega
  have hK1 : KJ N k u pg tl1 := ⟨hK.1, hK.2.1, htl, hK.2.2.2⟩
  have fr : ∀ {M2 : mm_M} {k2 : Nat → Int32} {u2 : Nat} {pg2 : Nat → Nat → Int32}, Ci M2 b k2 u2 pg2 tl1 tx1 → ff_X6_fault M2 b = some (-4) := by
    intro M2 k2 u2 pg2 C2
    obtain ⟨r, r1, r2⟩ := r_fault C2 htl
    have hr : r = -1 := FR_uniq r1 (Or.inr ⟨d, m, d2, by rw [if_neg (by omega)]⟩)
    rw [r2, if_pos hr]
  have start : ∀ R, (Option.bind (mm_ck 6 M1 b) fun u18 => Option.bind (ff_X6_count M1 b (6 : Int32)) fun v19 => if v19 ≤ (0 : Int32) then (ff_L_patterns_j115 M1 b x (nI (m + 1)) (nI tl1) (0 : Int32)) else (ff_L_patterns_j115 M1 b x (nI (m + 1)) (nI tl1) (1 : Int32))) = R → ff_L_patterns M b x = R := by
    intro R hR
    simp only [ff_L_patterns, l_low M _ (show 0 < (8 : Int32).toInt by decide), i_c hC, c1, mm_u2, ex2, Option.bind_some]
    rw [show mm_it (mm_u3 (ff_L_patterns_l19 b x (nI (m + 1)))) mm_fu (nI tl * (0 : Int32), (0 : Int32), M0) = _ from g1, Option.bind_some]
    exact hR
  by_cases hl : lc k ≤ 0
  · obtain ⟨M2, s, e2, t2, C2⟩ := w_pattern C1 hK.2.1 htl d2 d1 hl
    have hs : ∀ j, j < m + 1 → s j = Dt x j := fun j hj => (t2 j hj).trans (d3 j hj)
    have P2 := JP_pattern hK.1 (s := s) (e := m) (by omega) (fun j hj => by rw [hs j hj]; exact Dt_r x j)
    have K2 := KJ_keep hK1 (Int.le_refl _) P2
    have k4 : upd (fun j => if 12 ≤ j ∧ j < 20 then s (j - 12) else k j) 4 (nI (m + 1)) 4 = nI (m + 1) := upd_s
    have kj : ∀ j, j < 8 → upd (fun j => if 12 ≤ j ∧ j < 20 then s (j - 12) else k j) 4 (nI (m + 1)) (12 + j) = s j := fun j hj => by
      rw [upd_n (by omega)]
      show (if 12 ≤ 12 + j ∧ 12 + j < 20 then s (12 + j - 12) else k (12 + j)) = s j
      rw [if_pos (by omega), Nat.add_sub_cancel_left]
    generalize upd (fun j => if 12 ≤ j ∧ j < 20 then s (j - 12) else k j) 4 (nI (m + 1)) = k2 at *
    have hp2 := P2.1.1
    have sh : ∀ j, j < m + 1 → ff_X6_shade M2 b (nI j) = some (Dt x j) := fun j hj => by
      rw [r_shade C2 hp2 (by rw [k4, en]; omega), kj j (by omega), hs j hj]
    -- the pattern is compared
    have loop := it_for (body := mm_u1 (ff_L_patterns_l163 M2 b x (nI (m + 1)) 0)) (fun t => nI t) (m + 1) (.inl (nI (m + 1))) (fun t ht => by
      have et := zz_nI t (by omega)
      show ff_L_patterns_l163 M2 b x (nI (m + 1)) 0 (nI t) = _
      simp only [ff_L_patterns_l163, i_c C2, sh t ht, l_low M2 _ (show 0 < (3 : Int32).toInt by decide), l_low M2 _ (show 0 < (2 : Int32).toInt by decide), l_low M2 _ (show 0 < (10 : Int32).toInt by decide), Option.bind_some]
      rw [if_neg (by rw [zz_le, et, en]; omega), if_pos trivial]
      by_cases hc : lw (x >>> (nI t &&& 31)) 2 = 0
      · rw [if_pos hc]
        simp only [ff_L_patterns_j219, nI_1]
        rw [if_pos (by unfold Dt; rw [if_pos hc])]
      · rw [if_neg hc]
        simp only [ff_L_patterns_j219, nI_1]
        rw [if_pos (by unfold Dt; rw [if_neg hc])]) (by
      show ff_L_patterns_l163 M2 b x (nI (m + 1)) 0 (nI (m + 1)) = _
      simp only [ff_L_patterns_l163]
      rw [if_pos (by rw [zz_le]; exact Int.le_refl _)]) mm_fu (mm_fu_gt (by omega))
    refine ⟨M2, k2, uk u, pgk u k pg, tl1, tx1, start _ ?_, C2, K2⟩
    have c3 := r_c3 C2
    rw [k4] at c3
    simp only [i_c C1, r_c6 C1, if_pos hl, ff_L_patterns_j115, e2, mm_u2, i_c C2, fr C2, r_c14 C2, Option.bind_some, if_true]
    have loop0 : mm_it (mm_u1 (ff_L_patterns_l163 M2 b x (nI (m + 1)) 0)) mm_fu (0 : Int32) = some (.inl (nI (m + 1))) := loop
    simp (decide := true) only [ff_L_patterns_j155, ff_L_patterns_j245, loop0, se_l1, i_c C2, c3, Option.bind_some, if_true, if_false]
  · have e2 := w_patternS C1 htl hl
    refine ⟨M1, k, u, pg, tl1, tx1, start _ ?_, C1, hK1⟩
    have loop := it_for (body := mm_u1 (ff_L_patterns_l163 M1 b x (nI (m + 1)) 1)) (fun t => nI t) 0 (.inl (nI 0)) (fun t ht => by omega) (by
      show ff_L_patterns_l163 M1 b x (nI (m + 1)) 1 (nI 0) = _
      simp only [ff_L_patterns_l163]
      rw [if_neg (by rw [zz_le, en, zz_nI 0 (by omega)]; omega), if_neg (by decide)]) mm_fu (mm_fu_gt (by omega))
    simp (decide := true) only [i_c C1, r_c6 C1, if_neg hl, ff_L_patterns_j115, e2, mm_u2, fr C1, r_c14 C1, Option.bind_some, if_true, if_false]
    have loop0 : mm_it (mm_u1 (ff_L_patterns_l163 M1 b x (nI (m + 1)) 1)) mm_fu (0 : Int32) = some (.inl (nI 0)) := loop
    simp (decide := true) only [ff_L_patterns_j155, ff_L_patterns_j245, loop0, se_l1, Option.bind_some, if_true, if_false]
end PT
