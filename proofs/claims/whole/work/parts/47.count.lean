/-! count answers alike -/
section CT
variable {n : Int} {b u tl : Nat} {M : mm_M} {k m sp sv tx rd : Nat → Int32} {pg : Nat → Nat → Int32} {rc : Int32}
theorem ar_km (hp : Rp k) : 2 * hB k = 2 * (k 0 + k 1) - 4 := by
  have e := hB_2 hp
  have e2 := m_ar (m := k) hp
  rw [zz_e, e, e2]
theorem df_r (hp : Rp k) (hl : Rl k) {x y : Int32} (hi : ins k x y) : 0 ≤ (df k x y).toInt := by
  have b1 := wn_r hp hl hi
  have b2 := lx_r hp hl hi
  unfold df
  split
  · decide
  · rw [zz_ab (by rw [zz_s (by omega) (by omega)]; omega)]
    omega
theorem s_great (hC : Ci M b k u pg tl tx) (hD : Md M (b + 201) m sp sv tx rd u tl rc) (hK : KR n k m u pg sv tl) (hlc : ¬ (lc k).toInt ≤ 0) {x : Int32} (hg : gI k (k 0).toInt.toNat ((k 0).toInt.toNat * (k 1).toInt.toNat) x) : ff_X2_greatestDifference M (b + 1) = some x := by
  have h := hC.st
  have hI := hK.2.1
  have hp := hI.1
  have hp' := hp
  unfold Rp at hp'
  obtain ⟨w, ew⟩ : ∃ w : Nat, (k 0).toInt = w := ⟨(k 0).toInt.toNat, by omega⟩
  obtain ⟨r, er⟩ : ∃ r : Nat, (k 1).toInt = r := ⟨(k 1).toInt.toNat, by omega⟩
  obtain ⟨v, v1, v2, v3, v4⟩ := u_maxD h hp
  rw [ew, er] at hg v3 v4
  simp only [Int.toNat_natCast] at hg
  obtain ⟨g1, g2⟩ := hg
  -- of a cell
  have hcell : ∀ a c : Nat, a < w → c < r → lq2 k w (a + w * c) = lx k (nI a) (nI c) ∧ dq k w (a + w * c) = df k (nI a) (nI c) ∧ a + w * c < w * r := by
    intro a c ha hc
    unfold lq2 dq
    rw [Nat.add_mul_mod_self_left, Nat.mod_eq_of_lt ha, Nat.add_mul_div_left _ _ (by omega), Nat.div_eq_of_lt ha, Nat.zero_add]
    refine ⟨rfl, rfl, ?_⟩
    have : w * (c + 1) ≤ w * r := Nat.mul_le_mul_left w (by omega)
    rw [Nat.mul_succ] at this
    omega
  -- one is laid
  obtain ⟨j, j1, j2⟩ := lc_p hI.2.1 hlc
  have hj : j % 12 < w ∧ j / 12 < r := by
    refine Classical.byContradiction fun q => j2 ?_
    have := hI.2.1.2.1 (j % 12) (j / 12) (by omega) (by omega) (by omega)
    rw [show 12 * (j / 12) + j % 12 = j by omega] at this
    exact this
  have hjl : lx k (nI (j % 12)) (nI (j / 12)) ≠ -1 := by
    rw [lx_nn k (by omega) (by omega), show 12 * (j / 12) + j % 12 = j by omega]
    exact j2
  obtain ⟨q1, q2, q3⟩ := hcell _ _ hj.1 hj.2
  have hdj := df_r hp hI.2.1 (ins_n ew er hj.1 hj.2 hp)
  have hxge : 0 ≤ x.toInt := by
    have := g1 _ q3 (by rw [q1]; exact hjl)
    rw [q2] at this
    omega
  have hxle : x.toInt ≤ v.toInt := by
    rcases g2 with ⟨q, -⟩ | ⟨q, q5, q6, q7⟩
    · have : (-4 : Int32).toInt = -4 := rfl
      rw [q] at hxge
      omega
    · obtain ⟨d1, d2, d3⟩ := cdiv (w := w) (by omega) q5
      have := v3 (q % w) (q / w) (by omega) (by omega)
      have e : dq k w q = df k (nI (q % w)) (nI (q / w)) := rfl
      rw [← e, q7] at this
      exact this
  have hvle : v.toInt ≤ x.toInt := by
    rcases v4 with rfl | ⟨a, c, a1, c1, e⟩
    · rw [z0]; exact hxge
    · obtain ⟨p1, p2, p3⟩ := hcell a c (by omega) (by omega)
      by_cases hl : lx k (nI a) (nI c) = -1
      · have : df k (nI a) (nI c) = 0 := by unfold df; rw [if_pos hl]
        rw [← e, this, z0]; exact hxge
      · have := g1 _ p3 (by rw [p1]; exact hl)
        rw [p2, e] at this
        exact this
  have : v = x := by rw [zz_e]; omega
  rw [v1, this]
theorem nolaid (hK : KR n k m u pg sv tl) (hlc : (lc k).toInt ≤ 0) {x : Int32} (hg : gI k (k 0).toInt.toNat ((k 0).toInt.toNat * (k 1).toInt.toNat) x) : x = -4 := by
  have hI := hK.2.1
  have hp := hI.1
  unfold Rp at hp
  rcases hg.2 with ⟨q, -⟩ | ⟨q, q1, q2, -⟩
  · exact q
  · exfalso
    obtain ⟨d1, d2, d3⟩ := cdiv (w := (k 0).toInt.toNat) (r := (k 1).toInt.toNat) (by omega) q1
    refine q2 ?_
    show lx k (nI (q % _)) (nI (q / _)) = -1
    rw [lx_nn k (by omega) (by omega)]
    exact lc_0 hI.2.1 hlc _ (by omega)
theorem s_count (hC : Ci M b k u pg tl tx) (hD : Md M (b + 201) m sp sv tx rd u tl rc) (hK : KR n k m u pg sv tl) (x : Int32) : ∃ r, ff_X6_count M b x = some r ∧ ff_X7_count M (b + 201) x = some r := by
  have h := hC.st
  have ho := hD.mo
  have R := hK.1
  have hI := hK.2.1
  have hp := hI.1
  have hpm := PR_Rp R hp
  have L : ∀ j, j < 12 → m j = k j := R.lo
  by_cases c0 : x = 0
  · subst c0
    simp (decide := true) only [ff_X6_count, ff_X6_countOfPlan, ff_X7_count, ff_X7_count_j84, t_within, i_c hC, i_0 hC, g_s0 h, g_p4 h, n_m ho, q0 ho, L 0 (by omega), Option.bind_some, if_true, if_false]
    exact ⟨_, rfl, rfl⟩
  by_cases c1 : x = 1
  · subst c1
    simp (decide := true) only [ff_X6_count, ff_X6_countOfPlan, ff_X7_count, ff_X7_count_j84, t_within, i_c hC, i_0 hC, g_s0 h, g_p5 h, n_m ho, q1 ho, L 1 (by omega), Option.bind_some, if_true, if_false]
    exact ⟨_, rfl, rfl⟩
  by_cases c2 : x = 2
  · subst c2
    simp (decide := true) only [ff_X6_count, ff_X6_countOfPlan, ff_X7_count, t_within, i_c hC, i_0 hC, g_s0 h, c_p h, p_cells h, c_m ho, m_around ho, L 0 (by omega), L 1 (by omega), Option.bind_some, if_true, if_false, ar_km hp]
    exact ⟨_, rfl, rfl⟩
  by_cases c3 : x = 3
  · subst c3
    have e := q_m ho (i := 3 + 1) (n := 4) rfl (by omega)
    simp (decide := true) only [ff_X6_count, ff_X6_countOfPlan, ff_X7_count, ff_X7_count_j96, t_within, i_c hC, i_0 hC, g_s0 h, g_p2 h, n_m ho, e, L 4 (by omega), Option.bind_some, if_true, if_false]
    exact ⟨_, rfl, rfl⟩
  by_cases c4 : x = 4
  · subst c4
    have e := q_m ho (i := 4 + 1) (n := 5) rfl (by omega)
    simp (decide := true) only [ff_X6_count, ff_X6_countOfPlan, ff_X7_count, ff_X7_count_j96, t_within, i_c hC, i_0 hC, g_s0 h, g_p3 h, n_m ho, e, L 5 (by omega), Option.bind_some, if_true, if_false]
    exact ⟨_, rfl, rfl⟩
  by_cases c5 : x = 5
  · subst c5
    rcases p_meets h hp with ⟨a1, a2⟩ | ⟨a1, a2⟩
    · rcases m_meets ho R hp with ⟨d1, d2⟩ | ⟨d1, d2⟩
      · simp (decide := true) only [ff_X6_count, ff_X6_countOfPlan, ff_X7_count, t_within, i_c hC, i_0 hC, g_s0 h, c_p h, a1, c_m ho, d1, Option.bind_some, if_true, if_false]
      · exact absurd a2 d2
    · rcases m_meets ho R hp with ⟨d1, d2⟩ | ⟨d1, d2⟩
      · exact absurd d2 a2
      · simp (decide := true) only [ff_X6_count, ff_X6_countOfPlan, ff_X7_count, t_within, i_c hC, i_0 hC, g_s0 h, c_p h, a1, c_m ho, d1, Option.bind_some, if_true, if_false]
  by_cases c6 : x = 6
  · subst c6
    simp (decide := true) only [ff_X6_count, ff_X6_countOfWork, ff_X7_count, t_within, i_c hC, i_0 hC, c_s h, u_cells h, c_m ho, m_laid ho hpm, PR_lc R hp hI.2.1, Option.bind_some, if_true, if_false]
    exact ⟨_, rfl, rfl⟩
  by_cases c7 : x = 7
  · subst c7
    obtain ⟨v, v1, -⟩ := m_diffs ho R hI 0
    simp (decide := true) only [ff_X6_count, ff_X6_countOfWork, ff_X7_count, ff_X7_count_j123, ff_X7_count_j135, t_within, i_c hC, i_0 hC, c_s h, u_sumD h hp, c_m ho, v1, Option.bind_some, if_true, if_false]
    exact ⟨_, rfl, rfl⟩
  by_cases c8 : x = 8
  · subst c8
    obtain ⟨v, v1, v2⟩ := m_diffs ho R hI 1
    simp (decide := true) only [ff_X6_count, ff_X6_countOfWork, ff_X7_count, ff_X7_count_j123, ff_X7_count_j135, t_within, i_c hC, i_0 hC, c_s h, u_cells h, c_m ho, v1, Option.bind_some, if_true, if_false]
    by_cases hlc : lc k ≤ 0
    · rw [if_pos hlc]
      rw [zz_le, z0] at hlc
      rw [nolaid hK hlc v2]
      exact ⟨_, rfl, rfl⟩
    · rw [if_neg hlc]
      rw [zz_le, z0] at hlc
      rw [s_great hC hD hK hlc v2]
      exact ⟨_, rfl, rfl⟩
  by_cases c9 : x = 9
  · subst c9
    simp (decide := true) only [ff_X6_count, ff_X6_countOfWork, ff_X7_count, t_within, i_c hC, i_0 hC, g_s1 h, g_t2 h, n_m ho, q6 ho, L 6 (by omega), Option.bind_some, if_true, if_false]
    exact ⟨_, rfl, rfl⟩
  by_cases c10 : x = 10
  · subst c10
    have es : su (fun s => m (308 + s)) 100 = su (fun s => k (308 + s)) 100 := su_congr (fun s hs => R.hi _ (by omega) (by omega))
    simp (decide := true) only [ff_X6_count, ff_X6_countOfWork, ff_X7_count, t_within, i_c hC, i_0 hC, g_s1 h, c_t h, t_sumH h, c_m ho, m_sumH ho, es, Option.bind_some, if_true, if_false]
    exact ⟨_, rfl, rfl⟩
  by_cases c11 : x = 11
  · subst c11
    simp (decide := true) only [ff_X6_count, ff_X6_countOfWork, ff_X7_count, t_within, i_c hC, i_0 hC, g_s1 h, g_t5 h, n_m ho, q8 ho, L 8 (by omega), Option.bind_some, if_true, if_false]
    exact ⟨_, rfl, rfl⟩
  by_cases c12 : x = 12
  · subst c12
    simp (decide := true) only [ff_X6_count, ff_X6_countOfWork, ff_X7_count, t_within, i_c hC, i_0 hC, g_s3 h, n_m ho, q7 ho, L 7 (by omega), Option.bind_some, if_true, if_false]
    exact ⟨_, rfl, rfl⟩
  by_cases c13 : x = 13
  · subst c13
    simp (decide := true) only [ff_X6_count, ff_X6_countOfWork, ff_X7_count, t_within, i_c hC, i_2 hC, i_h hC, i_u hC, d_sv hD, Option.bind_some, if_true, if_false]
    exact ⟨_, rfl, rfl⟩
  by_cases c14 : x = 14
  · subst c14
    simp (decide := true) only [ff_X6_count, ff_X6_countOfWork, ff_X7_count, t_within, i_c hC, i_3 hC, k_len hC.2.2.2.2, d_tl hD, Option.bind_some, if_true, if_false]
    exact ⟨_, rfl, rfl⟩
  by_cases c15 : x = 15
  · subst c15
    have e := q_m ho (i := 2 + 15 - 15) (n := 2) rfl (by omega)
    simp (decide := true) only [ff_X6_count, ff_X6_countOfWork, ff_X7_count, ff_X7_count_j178, t_within, i_c hC, i_0 hC, g_s1 h, g_t3 h, n_m ho, e, L 2 (by omega), Option.bind_some, if_true, if_false]
    exact ⟨_, rfl, rfl⟩
  by_cases c16 : x = 16
  · subst c16
    have e := q_m ho (i := 2 + 16 - 15) (n := 3) rfl (by omega)
    simp (decide := true) only [ff_X6_count, ff_X6_countOfWork, ff_X7_count, ff_X7_count_j178, t_within, i_c hC, i_0 hC, g_s1 h, g_t4 h, n_m ho, e, L 3 (by omega), Option.bind_some, if_true, if_false]
    exact ⟨_, rfl, rfl⟩
  have hx : ¬ (0 ≤ x.toInt ∧ x.toInt ≤ 16) := by
    intro q
    obtain ⟨a, a1, a2⟩ := nat_of q.1
    have : a ≤ 16 := by omega
    subst a2
    have hh : a = 0 ∨ a = 1 ∨ a = 2 ∨ a = 3 ∨ a = 4 ∨ a = 5 ∨ a = 6 ∨ a = 7 ∨ a = 8 ∨ a = 9 ∨ a = 10 ∨ a = 11 ∨ a = 12 ∨ a = 13 ∨ a = 14 ∨ a = 15 ∨ a = 16 := by omega
    rcases hh with rfl | rfl | rfl | rfl | rfl | rfl | rfl | rfl | rfl | rfl | rfl | rfl | rfl | rfl | rfl | rfl | rfl <;> contradiction
  have e6 : (6 : Int32).toInt = 6 := rfl
  have e16 : (16 : Int32).toInt = 16 := rfl
  have e26 : (26 : Int32).toInt = 26 := rfl
  have n1 : ¬ ((0 : Int32).toInt ≤ x.toInt ∧ x.toInt ≤ (5 : Int32).toInt) := by rw [z0, z5]; omega
  have n2 : ¬ ((6 : Int32).toInt ≤ x.toInt ∧ x.toInt ≤ (16 : Int32).toInt) := by rw [e6, e16]; omega
  simp only [ff_X6_count, ff_X7_count, t_within, m_in, if_neg c0, if_neg c1, if_neg c2, if_neg c3, if_neg c4, if_neg c5, if_neg c6, if_neg c7, if_neg c8, if_neg c9, if_neg c10, if_neg c11, if_neg c12, if_neg c13, if_neg c14, if_neg c15, if_neg c16, if_neg n1, if_neg n2, Option.bind_some, ci10, if_true]
  by_cases hh : (20 : Int32).toInt ≤ x.toInt ∧ x.toInt ≤ (26 : Int32).toInt
  · rw [if_pos hh, if_pos hh]
    rw [z20, e26] at hh
    have ea : (x - 20).toInt = x.toInt - 20 := by rw [zz_s (by rw [z20]; omega) (by rw [z20]; omega), z20]
    have ac := m_account ho R hI (a := x - 20) (by omega) (by omega)
    simp only [i_c hC, c_m ho, ac, Option.bind_some]
    generalize x - 20 = a at *
    simp only [ff_X6_account, i_0 hC, g_s1 h, c_t h, c_s h, t_sumL h, t_sumS h, t_sumH h, u_cells h, g_t3 h, g_t6 h, g_t7 h, g_t8 h, Option.bind_some]
    by_cases a0 : a = 0
    · subst a0
      simp (decide := true) only [if_true, if_false, Option.bind_some]
      exact ⟨_, rfl, rfl⟩
    by_cases a1 : a = 1
    · subst a1
      simp (decide := true) only [if_true, if_false, Option.bind_some]
      exact ⟨_, rfl, rfl⟩
    by_cases a2 : a = 2
    · subst a2
      simp (decide := true) only [if_true, if_false, Option.bind_some]
      exact ⟨_, rfl, by rw [Int32.mul_comm]⟩
    by_cases a3 : a = 3
    · subst a3
      simp (decide := true) only [if_true, if_false, Option.bind_some]
      exact ⟨_, rfl, by rw [Int32.mul_comm]⟩
    by_cases a4 : a = 4
    · subst a4
      simp (decide := true) only [if_true, if_false, Option.bind_some]
      exact ⟨_, rfl, rfl⟩
    by_cases a5 : a = 5
    · subst a5
      simp (decide := true) only [if_true, if_false, Option.bind_some]
      exact ⟨_, rfl, rfl⟩
    have a6 : a = 6 := by
      rw [zz_e] at a0 a1 a2 a3 a4 a5 ⊢
      rw [z0] at a0
      rw [z1] at a1
      rw [z2] at a2
      rw [z3] at a3
      rw [z4] at a4
      rw [z5] at a5
      rw [e6]
      omega
    subst a6
    simp (decide := true) only [if_true, if_false, Option.bind_some]
    exact ⟨_, rfl, rfl⟩
  · rw [if_neg hh, if_neg hh]
    exact ⟨_, rfl, rfl⟩
end CT
