/-! the calls that change the page -/
section WR
variable {n : Int} {b u tl : Nat} {M : mm_M} {k m sp sv tx rd : Nat → Int32} {pg : Nat → Nat → Int32} {rc : Int32}
theorem e6i : (6 : Int32).toInt = 6 := rfl
theorem e20i : (20 : Int32).toInt = 20 := rfl
theorem e60i : (60 : Int32).toInt = 60 := rfl
theorem e99i : (99 : Int32).toInt = 99 := rfl
theorem e999i : (999 : Int32).toInt = 999 := rfl
theorem e1000i : (1000 : Int32).toInt = 1000 := rfl
theorem pBm_0 (m : Nat → Int32) (c r : Int32) : pBm m c r 0 = c ∧ pBm m c r 1 = r := by
  constructor
  · unfold pBm
    rw [cp2_o _ _ _ (by omega), cp2_o _ _ _ (by omega), upd_n (by omega), upd_s]
  · unfold pBm
    rw [cp2_o _ _ _ (by omega), cp2_o _ _ _ (by omega), upd_s]
theorem m_laidK (hD : Mo M (b + 201) m) (hK : KR n k m u pg sv tl) : ff_X7_laidCells M (b + 201) = some (lc k) := by
  rw [m_laid hD (PR_Rp hK.1 hK.2.1.1), PR_lc hK.1 hK.2.1.1 hK.2.1.2.1]
theorem s_floor (hn : 0 ≤ n ∧ n ≤ 1000) (hC : Ci M b k u pg tl tx) (hD : Md M (b + 201) m sp sv tx rd u tl rc) (hK : KR n k m u pg sv tl) (c r : Int32) : SS n b M (fun M => ff_X6_floor M b c r) (fun M => ff_X7_floor M (b + 201) c r) := by
  have h := hC.st
  have ho := hD.mo
  by_cases hc : (3 : Int32).toInt ≤ c.toInt ∧ c.toInt ≤ (12 : Int32).toInt
  · by_cases hr : (3 : Int32).toInt ≤ r.toInt ∧ r.toInt ≤ (12 : Int32).toInt
    · by_cases hl : lc k ≤ 0
      · have hl' : (lc k).toInt ≤ 0 := by rw [zz_le, z0] at hl; exact hl
        obtain ⟨P1, P2⟩ := PR_begin hK.1 hK.2.1 (c := c) (r := r) (by rw [z3, z12] at hc; exact hc) (by rw [z3, z12] at hr; exact hr) (lc_0 hK.2.1.2.1 hl')
        refine fin_w hC hD hK (r := c * r) (k' := pBe k c r) (fun Mk hk hCk => ?_) (fun M1 hD1 Mk sv' hk hDk => ⟨pBm m c r, ?_, P1⟩) (IP_mono P2 (by omega))
        · obtain ⟨M1, a1, a2, a3⟩ := p_begin hCk.st c r
          refine ⟨M1, ?_, a2, a3⟩
          simp only [ff_X6_floor, t_within, if_pos hc, if_pos hr, i_0 hC, c_s h, u_cells h, i_2 hC, i_h hC, hk, i_0 hCk, g_s0 hCk.st, c_p hCk.st, a1, Option.bind_some]
          rw [if_neg (by decide), if_neg (by decide), if_pos hl]
        · simp only [ff_X7_floor, m_in, if_pos hc, if_pos hr, c_m hD1.mo, m_laidK hD1.mo hK, hk, c_m hDk.mo, m_begin hDk.mo, c_m (Mo_w hDk.mo (pBm m c r)), m_cells (Mo_w hDk.mo (pBm m c r)), (pBm_0 m c r).1, (pBm_0 m c r).2, Option.bind_some]
          rw [if_neg (by decide), if_neg (by decide), if_pos hl]
      · refine fin_r hC hD hK (r := -2) ?_ ?_
        · simp only [ff_X6_floor, t_within, if_pos hc, if_pos hr, i_0 hC, c_s h, u_cells h, Option.bind_some]
          rw [if_neg (by decide), if_neg (by decide), if_neg hl]
        · simp only [ff_X7_floor, m_in, if_pos hc, if_pos hr, c_m ho, m_laidK ho hK, Option.bind_some]
          rw [if_neg (by decide), if_neg (by decide), if_neg hl]
    · refine fin_r hC hD hK (r := -1) ?_ ?_
      · simp only [ff_X6_floor, t_within, if_pos hc, if_neg hr, Option.bind_some]
        rw [if_neg (by decide), if_pos trivial]
      · simp only [ff_X7_floor, m_in, if_pos hc, if_neg hr, Option.bind_some]
        rw [if_neg (by decide), if_pos trivial]
  · refine fin_r hC hD hK (r := -1) ?_ ?_
    · simp only [ff_X6_floor, t_within, if_neg hc, Option.bind_some]
      rw [if_pos trivial]
    · simp only [ff_X7_floor, m_in, if_neg hc, Option.bind_some]
      rw [if_pos trivial]
theorem s_way (hn : 0 ≤ n ∧ n ≤ 1000) (hC : Ci M b k u pg tl tx) (hD : Md M (b + 201) m sp sv tx rd u tl rc) (hK : KR n k m u pg sv tl) (c : Int32) : SS n b M (fun M => ff_X6_way M b c) (fun M => ff_X7_way M (b + 201) c) := by
  have h := hC.st
  have ho := hD.mo
  by_cases hc : (0 : Int32).toInt ≤ c.toInt ∧ c.toInt ≤ (2 : Int32).toInt
  · by_cases hl : lc k ≤ 0
    · refine fin_w hC hD hK (r := k 5) (k' := upd k 5 c) (fun Mk hk hCk => ?_) (fun M1 hD1 Mk sv' hk hDk => ⟨upd m 5 c, ?_, PR_up hK.1 (by omega) c hK.2.1.1⟩) (IP_mono (IP_way hK.2.1 (by rw [z0, z2] at hc; exact hc)) (by omega))
      · obtain ⟨M1, a1, a2, a3⟩ := w_p3 hCk.st c
        refine ⟨M1, ?_, a2, a3⟩
        simp only [ff_X6_way, t_within, if_pos hc, i_0 hC, c_s h, u_cells h, i_2 hC, i_h hC, hk, i_0 hCk, g_s0 hCk.st, g_p3 hCk.st, a1, Option.bind_some]
        rw [if_neg (by decide), if_pos hl]
      · have s5 := s_m hDk.mo (i := 5) (n := 5) rfl (by omega) c
        simp only [ff_X7_way, m_in, if_pos hc, c_m hD1.mo, m_laidK hD1.mo hK, hk, n_m hDk.mo, q5 hDk.mo, s5, hK.1.lo 5 (by omega), Option.bind_some]
        rw [if_neg (by decide), if_pos hl]
    · refine fin_r hC hD hK (r := -2) ?_ ?_
      · simp only [ff_X6_way, t_within, if_pos hc, i_0 hC, c_s h, u_cells h, Option.bind_some]
        rw [if_neg (by decide), if_neg hl]
      · simp only [ff_X7_way, m_in, if_pos hc, c_m ho, m_laidK ho hK, Option.bind_some]
        rw [if_neg (by decide), if_neg hl]
  · refine fin_r hC hD hK (r := -1) ?_ ?_
    · simp only [ff_X6_way, t_within, if_neg hc, Option.bind_some]
      rw [if_pos trivial]
    · simp only [ff_X7_way, m_in, if_neg hc, Option.bind_some]
      rw [if_pos trivial]
theorem s_set (hn : 0 ≤ n ∧ n ≤ 1000) (hC : Ci M b k u pg tl tx) (hD : Md M (b + 201) m sp sv tx rd u tl rc) (hK : KR n k m u pg sv tl) (w v : Int32) : SS n b M (fun M => ff_X6_set M b w v) (fun M => ff_X7_set M (b + 201) w v) := by
  have h := hC.st
  have ho := hD.mo
  by_cases w0 : w = 0
  · subst w0
    have hin : ((0 : Int32).toInt ≤ (0 : Int32).toInt ∧ (0 : Int32).toInt ≤ (1 : Int32).toInt) := by decide
    by_cases hc : (5 : Int32).toInt ≤ v.toInt ∧ v.toInt ≤ (60 : Int32).toInt
    · by_cases hl : lc k ≤ 0
      · refine fin_w hC hD hK (r := k 2) (k' := upd (pTh k) 2 v) (fun Mk hk hCk => ?_) (fun M1 hD1 Mk sv' hk hDk => ⟨_, ?_, PR_size hK.1 hK.2.1.1 v⟩) (IP_mono (IP_size hK.2.1 hn.1 (by rw [z5, e60i] at hc; exact hc)) (by omega))
        · obtain ⟨M2, t1, t2, t3⟩ := t_throw hCk.st
          obtain ⟨c2, -⟩ := Ci_now hCk t2 t3
          obtain ⟨M1, a1, a2, a3⟩ := w_t3 t2 v
          refine ⟨M1, ?_, a2, Fz_tr t3 a3⟩
          simp only [ff_X6_set, ff_X6_changeSize, t_within, if_pos hc, i_c hC, i_0 hC, c_s h, u_cells h, i_2 hC, i_h hC, hk, i_0 hCk, g_s1 hCk.st, g_t3 hCk.st, c_t hCk.st, t1, i_0 c2, g_s1 t2, a1, mm_u2, Option.bind_some, if_true]
          rw [if_neg (by decide), if_pos hl]
          rfl
        · have s11 := s_m hDk.mo (i := 11) (n := 11) rfl (by omega) (m 11 + m 2 * su (fun s => m (308 + s)) 100)
          have H2 := Mo_w hDk.mo (upd m 11 (m 11 + m 2 * su (fun s => m (308 + s)) 100))
          have em := m_empty H2 0 v (k 2)
          have H3 := Mo_w hDk.mo (cp2 308 (fun _ => 0) (upd m 11 (m 11 + m 2 * su (fun s => m (308 + s)) 100)) 100)
          have s2 := s_m H3 (i := 2 + 0) (n := 2) rfl (by omega) v
          have r2 := q_m hDk.mo (i := 2 + 0) (n := 2) rfl (by omega)
          rw [wm_wm] at em s2
          have e2 : m 2 = k 2 := hK.1.lo 2 (by omega)
          rw [e2] at s11 em s2 H2 H3
          simp only [ff_X7_set, ff_X7_set_j19, ff_X7_set_j29, ff_X7_set_j51, ff_X7_set_j117, m_in, if_pos hin, if_pos hc, c_m hD1.mo, m_laidK hD1.mo hK, hk, n_m hDk.mo, r2, q11 hDk.mo, q2 hDk.mo, c_m hDk.mo, m_sumH hDk.mo, s11, e2, Option.bind_some, if_true]
          rw [if_neg (by decide), if_neg (by decide), if_pos hl, em, Option.bind_some]
          show Option.bind (mm_gR 7 (wm Mk (b + 201) _) (b + 201) 0) _ = _
          rw [n_m H3, Option.bind_some, s2, Option.bind_some]
      · refine fin_r hC hD hK (r := -2) ?_ ?_
        · simp only [ff_X6_set, ff_X6_changeSize, t_within, if_pos hc, i_c hC, i_0 hC, c_s h, u_cells h, mm_u2, Option.bind_some, if_true]
          rw [if_neg (by decide), if_neg hl]
          rfl
        · simp only [ff_X7_set, ff_X7_set_j19, ff_X7_set_j29, m_in, if_pos hin, if_pos hc, c_m ho, m_laidK ho hK, Option.bind_some, if_true]
          rw [if_neg (by decide), if_neg (by decide), if_neg hl]
    · refine fin_r hC hD hK (r := -1) ?_ ?_
      · simp only [ff_X6_set, ff_X6_changeSize, t_within, if_neg hc, i_c hC, mm_u2, Option.bind_some, if_true]
      · simp only [ff_X7_set, ff_X7_set_j19, ff_X7_set_j29, m_in, if_pos hin, if_neg hc, Option.bind_some, if_true]
        rw [if_neg (by decide)]
  · by_cases w1 : w = 1
    · subst w1
      have hin : ((0 : Int32).toInt ≤ (1 : Int32).toInt ∧ (1 : Int32).toInt ≤ (1 : Int32).toInt) := by decide
      by_cases hc : (0 : Int32).toInt ≤ v.toInt ∧ v.toInt ≤ (5 : Int32).toInt
      · refine fin_w hC hD hK (r := k 3) (k' := upd k 3 v) (fun Mk hk hCk => ?_) (fun M1 hD1 Mk sv' hk hDk => ⟨upd m 3 v, ?_, PR_up hK.1 (by omega) v hK.2.1.1⟩) (IP_mono (IP_loss hK.2.1 (by rw [z0, z5] at hc; exact hc)) (by omega))
        · obtain ⟨M1, a1, a2, a3⟩ := w_t4 hCk.st v
          refine ⟨M1, ?_, a2, a3⟩
          simp only [ff_X6_set, ff_X6_changeLoss, t_within, if_pos hc, i_c hC, i_0 hC, i_2 hC, i_h hC, hk, i_0 hCk, g_s1 hCk.st, g_t4 hCk.st, a1, mm_u2, Option.bind_some, if_neg w0, if_true]
        · have s3 := s_m hDk.mo (i := 2 + 1) (n := 3) rfl (by omega) v
          have r3 := q_m hDk.mo (i := 2 + 1) (n := 3) rfl (by omega)
          simp only [ff_X7_set, ff_X7_set_j19, ff_X7_set_j29, ff_X7_set_j51, ff_X7_set_j117, m_in, if_pos hin, if_pos hc, c_m hD1.mo, hk, n_m hDk.mo, r3, s3, hK.1.lo 3 (by omega), Option.bind_some, if_neg w0]
      · refine fin_r hC hD hK (r := -1) ?_ ?_
        · simp only [ff_X6_set, ff_X6_changeLoss, t_within, if_neg hc, i_c hC, mm_u2, Option.bind_some, if_neg w0, if_true]
        · simp only [ff_X7_set, ff_X7_set_j19, ff_X7_set_j29, m_in, if_pos hin, if_neg hc, Option.bind_some, if_neg w0, if_true]
    · have hin : ¬ ((0 : Int32).toInt ≤ w.toInt ∧ w.toInt ≤ (1 : Int32).toInt) := by
        rw [zz_e, z0] at w0
        rw [zz_e, z1] at w1
        rw [z0, z1]
        omega
      refine fin_r hC hD hK (r := -1) ?_ ?_
      · simp only [ff_X6_set, if_neg w0, if_neg w1]
      · simp only [ff_X7_set, m_in, if_neg hin, Option.bind_some, if_true]
end WR
