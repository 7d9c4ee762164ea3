/-! the calls that only read answer alike -/
section RD
variable {n : Int} {b u tl : Nat} {M : mm_M} {k m sp sv tx rd : Nat → Int32} {pg : Nat → Nat → Int32} {rc : Int32}
theorem in_km {x y : Int32} (R : PR k m) : ins m x y ↔ ins k x y := by
  unfold ins
  rw [R.lo 0 (by omega), R.lo 1 (by omega)]
theorem bo_km {x y : Int32} (R : PR k m) : bor m x y ↔ bor k x y := by
  unfold bor
  rw [R.lo 0 (by omega), R.lo 1 (by omega)]
theorem cidx (R : PR k m) (hp : Rp k) {a c : Nat} (ha : (a : Int) < (k 0).toInt) (hc : (c : Int) < (k 1).toInt) : nI a + nI c * m 0 = nI (a + (k 0).toInt.toNat * c) := by
  unfold Rp at hp
  have ea := zz_nI a (by omega)
  have ec := zz_nI c (by omega)
  have hlt := cx_lt (w := (k 0).toInt.toNat) (h := (k 1).toInt.toNat) (x := a) (y := c) (by omega) (by omega) (by omega) (by omega)
  have e : (c : Int) * (k 0).toInt = (((k 0).toInt.toNat * c : Nat) : Int) := by
    rw [Nat.mul_comm, Int.natCast_mul]
    congr 1
    omega
  have e2 : (nI c * m 0).toInt = (((k 0).toInt.toNat * c : Nat) : Int) := by rw [R.lo 0 (by omega), zz_m (by rw [ec, e]; omega) (by rw [ec, e]; omega), ec, e]
  exact zz_nn (by rw [zz_a (by omega) (by omega), ea, e2]; omega)
theorem ins_nat {x y : Int32} (hi : ins k x y) : ∃ a c : Nat, x = nI a ∧ y = nI c ∧ (a : Int) < (k 0).toInt ∧ (c : Int) < (k 1).toInt := by
  unfold ins at hi
  obtain ⟨a, a1, a2⟩ := nat_of hi.1
  obtain ⟨c, c1, c2⟩ := nat_of hi.2.2.1
  exact ⟨a, c, a2, c2, by omega, by omega⟩
theorem ci10 {α : Type} {P : Prop} [Decidable P] (x y : α) : (if (if P then (1 : Int32) else 0) = 0 then x else y) = if P then y else x := by
  by_cases h : P
  · rw [if_pos h, if_pos h, if_neg (by decide)]
  · rw [if_neg h, if_neg h, if_pos rfl]
theorem ci01 {α : Type} {P : Prop} [Decidable P] (x y : α) : (if (if P then (0 : Int32) else 1) = 0 then x else y) = if P then x else y := by
  by_cases h : P
  · rw [if_pos h, if_pos h, if_pos rfl]
  · rw [if_neg h, if_neg h, if_neg (by decide)]
theorem s_cell (hC : Ci M b k u pg tl tx) (hD : Md M (b + 201) m sp sv tx rd u tl rc) (hK : KR n k m u pg sv tl) (x y w : Int32) : ∃ r, ff_X6_cell M b x y w = some r ∧ ff_X7_cell M (b + 201) x y w = some r := by
  have h := hC.st
  have ho := hD.mo
  have R := hK.1
  have hI := hK.2.1
  have hp := hI.1
  have hpm := PR_Rp R hp
  by_cases hin : ins k x y
  · have e6 := p_has1 h hin
    have e7 := (m_cell ho hpm x y).1 ((in_km R).mpr hin)
    have w6 := p_want h hp hin
    have l6 := u_isL h hp hin
    have l6b := u_laid h hp hin
    have d6 := u_diff h hp hin
    obtain ⟨b1, b2⟩ := m_bo ho hpm ((in_km R).mpr hin)
    obtain ⟨rn, n1, n2⟩ := p_num h hp hin
    have hbo : (bor k x y → ff_X1_isBorder M (b + 1 + 1) x y = some 1 ∧ ff_X7_borderOf M (b + 201) x y = some rn ∧ rn ≠ -1) ∧ (¬ bor k x y → ff_X1_isBorder M (b + 1 + 1) x y = some 0 ∧ ff_X7_borderOf M (b + 201) x y = some (-1)) := by
      constructor
      · intro q
        obtain ⟨r, r1, r2⟩ := b1 ((bo_km R).mpr q)
        have : r = rn := by rw [zz_e, r2, n2, R.lo 0 (by omega), R.lo 1 (by omega)]
        rw [this] at r1
        refine ⟨p_bor1 h hp q, r1, ?_⟩
        have hp' := hp
        unfold Rp at hp'
        unfold ins at hin
        have := (bn_r (w := (k 0).toInt) (h := (k 1).toInt) (x := x.toInt) (y := y.toInt) (by omega) (by omega) (by omega) (by omega) (by omega) (by omega)).1
        rw [Ne, zz_e, zm1, n2]
        omega
      · intro q
        exact ⟨p_bor0 h hp q, b2 (fun z => q ((bo_km R).mp z))⟩
    obtain ⟨a, c, rfl, rfl, ha, hc⟩ := ins_nat hin
    obtain ⟨f1, f2, f3⟩ := m_diff ho R hI ha hc
    have ei := cidx R hp ha hc
    by_cases w0 : w = 0
    · subst w0
      simp (decide := true) only [ff_X6_cell, ff_X7_cell, ff_X7_cellOf, i_0 hC, g_s0 h, c_p h, c_s h, e6, e7, w6, c_m ho, n_m ho, q0 ho, ei, f1, m_in, Option.bind_some, if_true, if_false]
      exact ⟨_, rfl, rfl⟩
    · by_cases w1 : w = 1
      · subst w1
        simp (decide := true) only [ff_X6_cell, ff_X7_cell, ff_X7_cellOf, i_0 hC, g_s0 h, c_p h, c_s h, e6, e7, l6, l6b, c_m ho, n_m ho, q0 ho, ei, f2, m_in, Option.bind_some, if_true, if_false, ci01]
        split <;> exact ⟨_, rfl, rfl⟩
      · by_cases w2 : w = 2
        · subst w2
          simp (decide := true) only [ff_X6_cell, ff_X7_cell, ff_X7_cellOf, i_0 hC, g_s0 h, c_p h, c_s h, e6, e7, l6, d6, c_m ho, n_m ho, q0 ho, ei, f2, f3, m_in, Option.bind_some, if_true, if_false, ci01]
          unfold df
          by_cases hl : lx k (nI a) (nI c) = -1
          · rw [if_pos hl, if_pos hl]
            exact ⟨_, rfl, rfl⟩
          · rw [if_neg hl, if_neg hl, if_neg hl]
            exact ⟨_, rfl, rfl⟩
        · by_cases w3 : w = 3
          · subst w3
            by_cases hb : bor k (nI a) (nI c)
            · obtain ⟨g1, g2, g3⟩ := hbo.1 hb
              simp (decide := true) only [ff_X6_cell, ff_X7_cell, ff_X7_cellOf, i_0 hC, g_s0 h, c_p h, c_s h, e6, e7, g1, g2, n1, c_m ho, n_m ho, q0 ho, m_in, Option.bind_some, if_true, if_false]
              rw [if_neg g3]
              exact ⟨_, rfl, rfl⟩
            · obtain ⟨g1, g2⟩ := hbo.2 hb
              simp (decide := true) only [ff_X6_cell, ff_X7_cell, ff_X7_cellOf, i_0 hC, g_s0 h, c_p h, c_s h, e6, e7, g1, g2, c_m ho, n_m ho, q0 ho, m_in, Option.bind_some, if_true, if_false]
          · simp (decide := true) only [ff_X6_cell, ff_X7_cell, i_0 hC, g_s0 h, c_p h, e6, e7, c_m ho, m_in, Option.bind_some, if_true, if_false, if_neg w0, if_neg w1, if_neg w2, if_neg w3, ci10]
            rw [zz_e, z0] at w0
            rw [zz_e, z1] at w1
            rw [zz_e, z2] at w2
            rw [zz_e, z3] at w3
            rw [if_neg (show ¬ ((0 : Int32).toInt ≤ w.toInt ∧ w.toInt ≤ (3 : Int32).toInt) by rw [z0, z3]; omega)]
            exact ⟨_, rfl, rfl⟩
  · have e6 := p_has0 h hin
    have e7 := (m_cell ho hpm x y).2 (fun q => hin ((in_km R).mp q))
    simp only [ff_X6_cell, ff_X7_cell, i_0 hC, g_s0 h, c_p h, e6, c_m ho, e7, Option.bind_some]
    exact ⟨-1, by rw [if_pos trivial], by rw [if_pos trivial]⟩
theorem s_shade (hC : Ci M b k u pg tl tx) (hD : Md M (b + 201) m sp sv tx rd u tl rc) (hK : KR n k m u pg sv tl) (x : Int32) : ∃ r, ff_X6_shade M b x = some r ∧ ff_X7_shade M (b + 201) x = some r := by
  have h := hC.st
  have ho := hD.mo
  have R := hK.1
  have hI := hK.2.1
  have hp := hI.1
  have hp' := hp
  unfold Rp at hp'
  simp only [ff_X6_shade, ff_X7_shade, i_0 hC, g_s0 h, g_p2 h, c_p h, n_m ho, q4 ho, R.lo 4 (show 4 < 12 by omega), Option.bind_some]
  by_cases h0 : (0 : Int32) ≤ x
  · rw [if_pos h0, if_pos h0]
    rw [zz_le, z0] at h0
    by_cases h1 : k 4 ≤ x
    · rw [if_pos h1, if_pos h1]
      exact ⟨_, rfl, rfl⟩
    · rw [if_neg h1, if_neg h1]
      rw [zz_le] at h1
      obtain ⟨a, a1, a2⟩ := nat_of h0
      rw [p_pat h hp h0, a2]
      have ea := zz_nI a (by omega)
      rw [q_m ho (ixm 12 12 z12 (by omega) (n := a) (by omega)) (by omega), Option.bind_some, Option.bind_some, ea, R.pt a (by omega), Int.emod_eq_of_lt (by omega) (by omega), Int.toNat_natCast]
      exact ⟨_, rfl, rfl⟩
  · rw [if_neg h0, if_neg h0]
    exact ⟨_, rfl, rfl⟩
theorem in_99 (x : Int32) : ff_X7_in M x 0 99 = some (if 0 ≤ x.toInt ∧ x.toInt ≤ 99 then 1 else 0) := m_in M x 0 99
theorem is_99 (x : Int32) : ff_X6_isShade M x = some (if 0 ≤ x.toInt ∧ x.toInt ≤ 99 then 1 else 0) := by
  by_cases hx : 0 ≤ x.toInt ∧ x.toInt ≤ 99
  · rw [if_pos hx, t_wi hx.1 hx.2]
  · rw [if_neg hx, t_wi0 (by omega)]
theorem s_ready (hC : Ci M b k u pg tl tx) (hD : Md M (b + 201) m sp sv tx rd u tl rc) (hK : KR n k m u pg sv tl) (x : Int32) : ∃ r, ff_X6_ready M b x = some r ∧ ff_X7_ready M (b + 201) x = some r := by
  have h := hC.st
  have ho := hD.mo
  have R := hK.1
  have hI := hK.2.1
  have hrm := PR_Rs R hI.2.2.1
  simp only [ff_X6_ready, ff_X7_ready, in_99, is_99, ci10, Option.bind_some]
  by_cases hx : 0 ≤ x.toInt ∧ x.toInt ≤ 99
  · rw [if_pos hx, if_pos hx]
    simp only [i_0 hC, g_s1 h, c_t h, t_ready h hI.2.2.1 hx.1 hx.2, c_m ho, m_ready ho hrm hx.1 hx.2, Option.bind_some, PR_rdy R hI.2.2.1, R.hi (308 + x.toInt.toNat) (by omega) (by omega)]
    exact ⟨_, rfl, rfl⟩
  · rw [if_neg hx, if_neg hx]
    exact ⟨_, rfl, rfl⟩
theorem s_lacks (hC : Ci M b k u pg tl tx) (hD : Md M (b + 201) m sp sv tx rd u tl rc) (hK : KR n k m u pg sv tl) (x : Int32) : ∃ r, ff_X6_lacks M b x = some r ∧ ff_X7_lacks M (b + 201) x = some r := by
  have h := hC.st
  have ho := hD.mo
  have R := hK.1
  have hI := hK.2.1
  simp only [ff_X6_lacks, ff_X7_lacks, in_99, is_99, ci10, Option.bind_some]
  by_cases hx : 0 ≤ x.toInt ∧ x.toInt ≤ 99
  · rw [if_pos hx, if_pos hx]
    simp only [i_0 hC, c_s h, v_lack h hI hx.1 hx.2, c_m ho, m_lacks ho R hI hx.1 hx.2, Option.bind_some]
    exact ⟨_, rfl, rfl⟩
  · rw [if_neg hx, if_neg hx]
    exact ⟨_, rfl, rfl⟩
theorem s_stripFor (hC : Ci M b k u pg tl tx) (hD : Md M (b + 201) m sp sv tx rd u tl rc) (hK : KR n k m u pg sv tl) (x : Int32) : ∃ r, ff_X6_stripFor M b x = some r ∧ ff_X7_stripFor M (b + 201) x = some r := by
  have h := hC.st
  have ho := hD.mo
  have R := hK.1
  have hI := hK.2.1
  simp only [ff_X6_stripFor, ff_X7_stripFor, in_99, is_99, ci10, Option.bind_some]
  by_cases hx : 0 ≤ x.toInt ∧ x.toInt ≤ 99
  · rw [if_pos hx, if_pos hx]
    simp only [i_0 hC, c_s h, v_lack h hI hx.1 hx.2, c_m ho, m_lacks ho R hI hx.1 hx.2, n_m ho, q2 ho, q3 ho, g_s1 h, g_t3 h, g_t4 h, R.lo 2 (show 2 < 12 by omega), R.lo 3 (show 3 < 12 by omega), Option.bind_some]
    generalize mm_mx (wt k x - (k (308 + x.toInt.toNat) + rdy k x 10)) 0 = L
    by_cases h0 : L = 0
    · rw [if_pos h0, if_pos h0]
      exact ⟨_, rfl, rfl⟩
    · rw [if_neg h0, if_neg h0]
      generalize L * k 2 + (L - 1) * k 3 = E
      by_cases h1 : E ≤ 1000
      · rw [if_pos h1, if_pos h1]
        unfold mm_mx
        by_cases h2 : E < 20
        · rw [if_pos h2, if_neg (by rw [zz_le]; rw [zz_lt] at h2; omega)]
          exact ⟨_, rfl, rfl⟩
        · rw [if_neg h2, if_pos (by rw [zz_le]; rw [zz_lt] at h2; omega)]
          exact ⟨_, rfl, rfl⟩
      · rw [if_neg h1, if_neg h1]
        exact ⟨_, rfl, rfl⟩
  · rw [if_neg hx, if_neg hx]
    exact ⟨_, rfl, rfl⟩
theorem s_nearest (hC : Ci M b k u pg tl tx) (hD : Md M (b + 201) m sp sv tx rd u tl rc) (hK : KR n k m u pg sv tl) (x y : Int32) : ∃ r, ff_X6_nearest M b x y = some r ∧ ff_X7_nearest M (b + 201) x y = some r := by
  have h := hC.st
  have ho := hD.mo
  have R := hK.1
  have hI := hK.2.1
  have hp := hI.1
  have hpm := PR_Rp R hp
  by_cases hin : ins k x y
  · have e6 := p_has1 h hin
    have e7 := (m_cell ho hpm x y).1 ((in_km R).mpr hin)
    have l6 := u_isL h hp hin
    obtain ⟨f6, -⟩ := u_near h hp hI.2.1 hI.2.2.1 hin
    have hw := wn_r hp hI.2.1 hin
    obtain ⟨g7, -⟩ := m_near ho (PR_Rs R hI.2.2.1) hw.1 hw.2
    rw [PR_nf R hI.2.2.1] at g7
    obtain ⟨a, c, rfl, rfl, ha, hc⟩ := ins_nat hin
    obtain ⟨f1, f2, f3⟩ := m_diff ho R hI ha hc
    have ei := cidx R hp ha hc
    simp (decide := true) only [ff_X6_nearest, ff_X7_nearest, ff_X7_nearest_j49, i_0 hC, g_s0 h, c_p h, c_s h, e6, e7, l6, f6, c_m ho, n_m ho, q0 ho, ei, f1, f2, g7, Option.bind_some, if_true, if_false, ci01]
    split
    · split <;> exact ⟨_, rfl, rfl⟩
    · exact ⟨_, rfl, rfl⟩
  · have e6 := p_has0 h hin
    have e7 := (m_cell ho hpm x y).2 (fun q => hin ((in_km R).mp q))
    simp only [ff_X6_nearest, ff_X7_nearest, i_0 hC, g_s0 h, c_p h, e6, c_m ho, e7, Option.bind_some, if_true]
    exact ⟨_, rfl, rfl⟩
theorem s_stripOf (hC : Ci M b k u pg tl tx) (hD : Md M (b + 201) m sp sv tx rd u tl rc) (hK : KR n k m u pg sv tl) (x w : Int32) : ∃ r, ff_X6_stripOf M b x w = some r ∧ ff_X7_stripOf M (b + 201) x w = some r := by
  have h := hC.st
  have ho := hD.mo
  have R := hK.1
  have hI := hK.2.1
  have hr := hI.2.2.1
  have hrm := PR_Rs R hr
  have h6 := hr.2.2.1
  simp only [ff_X6_stripOf, ff_X7_stripOf, i_0 hC, g_s1 h, c_t h, t_strip h hr, c_m ho, m_isS ho hrm, R.lo 6 (show 6 < 12 by omega), Option.bind_some, ci10]
  by_cases hx : 0 ≤ x.toInt ∧ x.toInt < (k 6).toInt
  · rw [if_pos hx, if_pos hx]
    obtain ⟨i, i1, i2⟩ := nat_of hx.1
    have hi : i < 10 := by omega
    rw [show x.toInt.toNat = i by omega]
    subst i2
    have H : ∀ j, 408 ≤ j → j < 518 → m j = k j := fun j h1 h2 => R.hi j (by omega) h2
    simp only [mm_oc, m_in]
    by_cases w0 : w = 0
    · subst w0
      simp (decide := true) only [ff_X7_partOf, ff_X7_partOf_j49, ff_X7_partOf_j61, g_r2 h hi, c_m ho, of0 ho hi, Option.bind_some, if_true, if_false, H (408 + 11 * i) (by omega) (by omega)]
      exact ⟨_, rfl, rfl⟩
    · by_cases w1 : w = 1
      · subst w1
        simp (decide := true) only [ff_X7_partOf, ff_X7_partOf_j49, ff_X7_partOf_j61, g_r3 h hi, c_m ho, of1 ho hi, Option.bind_some, if_true, if_false, H (409 + 11 * i) (by omega) (by omega)]
        exact ⟨_, rfl, rfl⟩
      · by_cases w2 : w = 2
        · subst w2
          simp (decide := true) only [ff_X7_partOf, c_r h hi, s_left h hi, c_m ho, m_left ho hi, Option.bind_some, if_true, if_false, H (408 + 11 * i) (by omega) (by omega), H (410 + 11 * i) (by omega) (by omega)]
          exact ⟨_, rfl, rfl⟩
        · by_cases w3 : w = 3
          · subst w3
            simp (decide := true) only [ff_X7_partOf, g_r1 h hi, c_m ho, of3 ho hi, Option.bind_some, if_true, if_false, H (411 + 11 * i) (by omega) (by omega)]
            exact ⟨_, rfl, rfl⟩
          · by_cases w4 : w = 4
            · subst w4
              simp (decide := true) only [ff_X7_partOf, ff_X7_partOf_j49, ff_X7_partOf_j61, g_t3 h, g_t4 h, c_r h hi, s_ta h hr hi, c_m ho, m_ta ho hrm hi, Option.bind_some, if_true, if_false, PR_ta R hi]
              exact ⟨_, rfl, rfl⟩
            · by_cases w5 : w = 5
              · subst w5
                simp (decide := true) only [ff_X7_partOf, ff_X7_partOf_j49, ff_X7_partOf_j61, g_t3 h, g_t4 h, c_r h hi, s_ga h hr hi, c_m ho, m_ga ho hrm hi, Option.bind_some, if_true, if_false, PR_ga R hr hi]
                exact ⟨_, rfl, rfl⟩
              · by_cases w6 : w = 6
                · subst w6
                  simp (decide := true) only [ff_X7_partOf, g_r5 h hi, c_m ho, of4 ho hi, Option.bind_some, if_true, if_false, H (412 + 11 * i) (by omega) (by omega)]
                  exact ⟨_, rfl, rfl⟩
                · simp only [if_neg w0, if_neg w1, if_neg w2, if_neg w3, if_neg w4, if_neg w5, if_neg w6, ci10]
                  rw [zz_e] at w0 w1 w2 w3 w4 w5 w6
                  rw [if_neg (show ¬ ((0 : Int32).toInt ≤ w.toInt ∧ w.toInt ≤ (6 : Int32).toInt) from fun q => by
                    have e0 : (0 : Int32).toInt = 0 := rfl
                    have e1 : (1 : Int32).toInt = 1 := rfl
                    have e2 : (2 : Int32).toInt = 2 := rfl
                    have e3 : (3 : Int32).toInt = 3 := rfl
                    have e4 : (4 : Int32).toInt = 4 := rfl
                    have e5 : (5 : Int32).toInt = 5 := rfl
                    have e6 : (6 : Int32).toInt = 6 := rfl
                    omega)]
                  exact ⟨_, rfl, rfl⟩
  · rw [if_neg hx, if_neg hx]
    exact ⟨_, rfl, rfl⟩
end RD
