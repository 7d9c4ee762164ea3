/-! what the calls that only read answer -/
section RA
variable {n : Int} {b u tl : Nat} {M : mm_M} {k tx : Nat → Int32} {pg : Nat → Nat → Int32}
theorem r_cellN (hC : Ci M b k u pg tl tx) {x y : Int32} (hi : ¬ ins k x y) (w : Int32) : ff_X6_cell M b x y w = some (-1) := by
  simp only [ff_X6_cell, i_0 hC, g_s0 hC.st, c_p hC.st, p_has0 hC.st hi, Option.bind_some, if_true]
theorem r_cell0 (hC : Ci M b k u pg tl tx) (hp : Rp k) {x y : Int32} (hi : ins k x y) : ff_X6_cell M b x y 0 = some (wn k x y) := by
  simp (decide := true) only [ff_X6_cell, i_0 hC, g_s0 hC.st, c_p hC.st, p_has1 hC.st hi, p_want hC.st hp hi, Option.bind_some, if_true, if_false]
theorem r_cell1 (hC : Ci M b k u pg tl tx) (hp : Rp k) {x y : Int32} (hi : ins k x y) : ff_X6_cell M b x y 1 = some (if lx k x y = -1 then -4 else lx k x y) := by
  simp (decide := true) only [ff_X6_cell, i_0 hC, g_s0 hC.st, c_p hC.st, c_s hC.st, p_has1 hC.st hi, u_isL hC.st hp hi, u_laid hC.st hp hi, Option.bind_some, if_true, if_false, ci01]
  split <;> rfl
theorem r_cell2 (hC : Ci M b k u pg tl tx) (hp : Rp k) {x y : Int32} (hi : ins k x y) : ff_X6_cell M b x y 2 = some (if lx k x y = -1 then -4 else df k x y) := by
  simp (decide := true) only [ff_X6_cell, i_0 hC, g_s0 hC.st, c_p hC.st, c_s hC.st, p_has1 hC.st hi, u_isL hC.st hp hi, u_diff hC.st hp hi, Option.bind_some, if_true, if_false, ci01]
  split <;> rfl
theorem r_cell3 (hC : Ci M b k u pg tl tx) (hp : Rp k) {x y : Int32} (hi : ins k x y) (hb : bor k x y) : ∃ r, ff_X6_cell M b x y 3 = some r ∧ r.toInt = bn (k 0).toInt (k 1).toInt x.toInt y.toInt := by
  obtain ⟨rn, n1, n2⟩ := p_num hC.st hp hi
  refine ⟨rn, ?_, n2⟩
  simp (decide := true) only [ff_X6_cell, i_0 hC, g_s0 hC.st, c_p hC.st, p_has1 hC.st hi, p_bor1 hC.st hp hb, n1, Option.bind_some, if_true, if_false]
theorem r_cell3n (hC : Ci M b k u pg tl tx) (hp : Rp k) {x y : Int32} (hi : ins k x y) (hb : ¬ bor k x y) : ff_X6_cell M b x y 3 = some (-4) := by
  simp (decide := true) only [ff_X6_cell, i_0 hC, g_s0 hC.st, c_p hC.st, p_has1 hC.st hi, p_bor0 hC.st hp hb, Option.bind_some, if_true, if_false]
theorem r_cell4 (hC : Ci M b k u pg tl tx) {x y : Int32} (hi : ins k x y) : ff_X6_cell M b x y 4 = some (-1) := by
  simp (decide := true) only [ff_X6_cell, i_0 hC, g_s0 hC.st, c_p hC.st, p_has1 hC.st hi, Option.bind_some, if_true, if_false]
-- count
theorem r_c0 (hC : Ci M b k u pg tl tx) : ff_X6_count M b 0 = some (k 0) := by
  simp (decide := true) only [ff_X6_count, ff_X6_countOfPlan, t_within, i_c hC, i_0 hC, g_s0 hC.st, g_p4 hC.st, Option.bind_some, if_true, if_false]
theorem r_c1 (hC : Ci M b k u pg tl tx) : ff_X6_count M b 1 = some (k 1) := by
  simp (decide := true) only [ff_X6_count, ff_X6_countOfPlan, t_within, i_c hC, i_0 hC, g_s0 hC.st, g_p5 hC.st, Option.bind_some, if_true, if_false]
theorem r_c2 (hC : Ci M b k u pg tl tx) : ff_X6_count M b 2 = some (2 * hB k) := by
  simp (decide := true) only [ff_X6_count, ff_X6_countOfPlan, t_within, i_c hC, i_0 hC, g_s0 hC.st, c_p hC.st, p_cells hC.st, Option.bind_some, if_true, if_false]
theorem r_c3 (hC : Ci M b k u pg tl tx) : ff_X6_count M b 3 = some (k 4) := by
  simp (decide := true) only [ff_X6_count, ff_X6_countOfPlan, t_within, i_c hC, i_0 hC, g_s0 hC.st, g_p2 hC.st, Option.bind_some, if_true, if_false]
theorem r_c4 (hC : Ci M b k u pg tl tx) : ff_X6_count M b 4 = some (k 5) := by
  simp (decide := true) only [ff_X6_count, ff_X6_countOfPlan, t_within, i_c hC, i_0 hC, g_s0 hC.st, g_p3 hC.st, Option.bind_some, if_true, if_false]
theorem r_c5 (hC : Ci M b k u pg tl tx) (hp : Rp k) : (ff_X6_count M b 5 = some 1 ∧ ME k) ∨ (ff_X6_count M b 5 = some 0 ∧ ¬ ME k) := by
  rcases p_meets hC.st hp with ⟨a1, a2⟩ | ⟨a1, a2⟩
  · left
    simp (decide := true) only [ff_X6_count, ff_X6_countOfPlan, t_within, i_c hC, i_0 hC, g_s0 hC.st, c_p hC.st, a1, Option.bind_some, if_true, if_false]
    exact ⟨trivial, a2⟩
  · right
    simp (decide := true) only [ff_X6_count, ff_X6_countOfPlan, t_within, i_c hC, i_0 hC, g_s0 hC.st, c_p hC.st, a1, Option.bind_some, if_true, if_false]
    exact ⟨trivial, a2⟩
theorem r_c6 (hC : Ci M b k u pg tl tx) : ff_X6_count M b 6 = some (lc k) := by
  simp (decide := true) only [ff_X6_count, ff_X6_countOfWork, t_within, i_c hC, i_0 hC, c_s hC.st, u_cells hC.st, Option.bind_some, if_true, if_false]
/-- the sum of the differences -/
def sd (k : Nat → Int32) : Int32 := su (fun y => su (fun x => df k (nI x) (nI y)) (k 0).toInt.toNat) (k 1).toInt.toNat
theorem r_c7 (hC : Ci M b k u pg tl tx) (hp : Rp k) : ff_X6_count M b 7 = some (sd k) := by
  simp (decide := true) only [ff_X6_count, ff_X6_countOfWork, t_within, i_c hC, i_0 hC, c_s hC.st, u_sumD hC.st hp, Option.bind_some, if_true, if_false]
  rfl
theorem r_c8 (hC : Ci M b k u pg tl tx) (hp : Rp k) : ∃ v, 0 ≤ v.toInt ∧ (∀ x y : Nat, (x : Int) < (k 0).toInt → (y : Int) < (k 1).toInt → (df k (nI x) (nI y)).toInt ≤ v.toInt) ∧ (v = 0 ∨ ∃ x y : Nat, (x : Int) < (k 0).toInt ∧ (y : Int) < (k 1).toInt ∧ df k (nI x) (nI y) = v) ∧ ff_X6_count M b 8 = some (if lc k ≤ 0 then -4 else v) := by
  obtain ⟨v, v1, v2, v3, v4⟩ := u_maxD hC.st hp
  refine ⟨v, v2, v3, v4, ?_⟩
  simp (decide := true) only [ff_X6_count, ff_X6_countOfWork, t_within, i_c hC, i_0 hC, c_s hC.st, u_cells hC.st, v1, Option.bind_some, if_true, if_false]
  split <;> rfl
theorem r_c9 (hC : Ci M b k u pg tl tx) : ff_X6_count M b 9 = some (k 6) := by
  simp (decide := true) only [ff_X6_count, ff_X6_countOfWork, t_within, i_c hC, i_0 hC, g_s1 hC.st, g_t2 hC.st, Option.bind_some, if_true, if_false]
theorem r_c10 (hC : Ci M b k u pg tl tx) : ff_X6_count M b 10 = some (su (fun s => k (308 + s)) 100) := by
  simp (decide := true) only [ff_X6_count, ff_X6_countOfWork, t_within, i_c hC, i_0 hC, g_s1 hC.st, c_t hC.st, t_sumH hC.st, Option.bind_some, if_true, if_false]
theorem r_c12 (hC : Ci M b k u pg tl tx) : ff_X6_count M b 12 = some (k 7) := by
  simp (decide := true) only [ff_X6_count, ff_X6_countOfWork, t_within, i_c hC, i_0 hC, g_s3 hC.st, Option.bind_some, if_true, if_false]
theorem r_c13 (hC : Ci M b k u pg tl tx) : ff_X6_count M b 13 = some (nI u) := by
  simp (decide := true) only [ff_X6_count, ff_X6_countOfWork, t_within, i_c hC, i_2 hC, i_h hC, i_u hC, Option.bind_some, if_true, if_false]
theorem r_c14 (hC : Ci M b k u pg tl tx) : ff_X6_count M b 14 = some (nI tl) := by
  simp (decide := true) only [ff_X6_count, ff_X6_countOfWork, t_within, i_c hC, i_3 hC, k_len hC.2.2.2.2, Option.bind_some, if_true, if_false]
theorem r_c15 (hC : Ci M b k u pg tl tx) : ff_X6_count M b 15 = some (k 2) := by
  simp (decide := true) only [ff_X6_count, ff_X6_countOfWork, t_within, i_c hC, i_0 hC, g_s1 hC.st, g_t3 hC.st, Option.bind_some, if_true, if_false]
theorem r_c17 : ff_X6_count M b 17 = some (-1) := by
  simp (decide := true) only [ff_X6_count, t_within, Option.bind_some, if_true, if_false]
theorem r_c27 : ff_X6_count M b 27 = some (-1) := by
  simp (decide := true) only [ff_X6_count, t_within, Option.bind_some, if_true, if_false]
theorem r_c20 (hC : Ci M b k u pg tl tx) : ff_X6_count M b 20 = some (su (fun i => k (408 + 11 * i)) 10) := by
  simp (decide := true) only [ff_X6_count, ff_X6_account, t_within, i_c hC, i_0 hC, g_s1 hC.st, c_t hC.st, t_sumL hC.st, Option.bind_some, if_true, if_false]
theorem r_c21 (hC : Ci M b k u pg tl tx) : ff_X6_count M b 21 = some (su (fun i => k (408 + 11 * i) - k (410 + 11 * i)) 10) := by
  simp (decide := true) only [ff_X6_count, ff_X6_account, t_within, i_c hC, i_0 hC, g_s1 hC.st, c_t hC.st, t_sumS hC.st, Option.bind_some, if_true, if_false]
theorem r_c22 (hC : Ci M b k u pg tl tx) : ff_X6_count M b 22 = some (su (fun s => k (308 + s)) 100 * k 2) := by
  simp (decide := true) only [ff_X6_count, ff_X6_account, t_within, i_c hC, i_0 hC, g_s1 hC.st, c_t hC.st, t_sumH hC.st, g_t3 hC.st, Option.bind_some, if_true, if_false]
theorem r_c23 (hC : Ci M b k u pg tl tx) : ff_X6_count M b 23 = some (lc k * k 2) := by
  simp (decide := true) only [ff_X6_count, ff_X6_account, t_within, i_c hC, i_0 hC, g_s1 hC.st, c_s hC.st, u_cells hC.st, g_t3 hC.st, Option.bind_some, if_true, if_false]
theorem r_c24 (hC : Ci M b k u pg tl tx) : ff_X6_count M b 24 = some (k 9) := by
  simp (decide := true) only [ff_X6_count, ff_X6_account, t_within, i_c hC, i_0 hC, g_s1 hC.st, g_t6 hC.st, Option.bind_some, if_true, if_false]
theorem r_c25 (hC : Ci M b k u pg tl tx) : ff_X6_count M b 25 = some (k 10) := by
  simp (decide := true) only [ff_X6_count, ff_X6_account, t_within, i_c hC, i_0 hC, g_s1 hC.st, g_t7 hC.st, Option.bind_some, if_true, if_false]
theorem r_c26 (hC : Ci M b k u pg tl tx) : ff_X6_count M b 26 = some (k 11) := by
  simp (decide := true) only [ff_X6_count, ff_X6_account, t_within, i_c hC, i_0 hC, g_s1 hC.st, g_t8 hC.st, Option.bind_some, if_true, if_false]
-- the others
theorem r_shade (hC : Ci M b k u pg tl tx) (hp : Rp k) {x : Nat} (hx : (x : Int) < (k 4).toInt) : ff_X6_shade M b (nI x) = some (k (12 + x)) := by
  have hp' := hp
  unfold Rp at hp'
  have ex := zz_nI x (by omega)
  simp only [ff_X6_shade, i_0 hC, g_s0 hC.st, g_p2 hC.st, c_p hC.st, Option.bind_some]
  rw [if_pos (by rw [zz_le, z0]; omega), if_neg (by rw [zz_le]; omega), p_pat hC.st hp (by omega), Option.bind_some, ex, Int.emod_eq_of_lt (by omega) (by omega), Int.toNat_natCast]
theorem r_shadeL (hC : Ci M b k u pg tl tx) (hp : Rp k) : ff_X6_shade M b (k 4) = some (-4) := by
  have hp' := hp
  unfold Rp at hp'
  simp only [ff_X6_shade, i_0 hC, g_s0 hC.st, g_p2 hC.st, c_p hC.st, Option.bind_some]
  rw [if_pos (by rw [zz_le, z0]; omega), if_pos (by rw [zz_le]; omega)]
theorem r_shadeN : ff_X6_shade M b (-1) = some (-1) := by
  simp (decide := true) only [ff_X6_shade, if_true, if_false]
theorem r_ready (hC : Ci M b k u pg tl tx) (hr : Rs k) {x : Int32} (hx : 0 ≤ x.toInt ∧ x.toInt ≤ 99) : ff_X6_ready M b x = some (k (308 + x.toInt.toNat) + rdy k x 10) := by
  simp (decide := true) only [if_true, if_false, ff_X6_ready, is_99, ci10, if_pos hx, i_0 hC, g_s1 hC.st, c_t hC.st, t_ready hC.st hr hx.1 hx.2, Option.bind_some]
theorem r_readyN {x : Int32} (hx : ¬ (0 ≤ x.toInt ∧ x.toInt ≤ 99)) : ff_X6_ready M b x = some (-1) := by
  simp (decide := true) only [if_true, if_false, ff_X6_ready, is_99, ci10, if_neg hx, Option.bind_some]
/-- how many lack -/
def lk (k : Nat → Int32) (x : Int32) : Int32 := mm_mx (wt k x - (k (308 + x.toInt.toNat) + rdy k x 10)) 0
theorem r_lacks (hC : Ci M b k u pg tl tx) (hI : IP n k) {x : Int32} (hx : 0 ≤ x.toInt ∧ x.toInt ≤ 99) : ff_X6_lacks M b x = some (lk k x) := by
  simp (decide := true) only [if_true, if_false, ff_X6_lacks, is_99, ci10, if_pos hx, i_0 hC, c_s hC.st, v_lack hC.st hI hx.1 hx.2, Option.bind_some]
  rfl
theorem r_lacksN {x : Int32} (hx : ¬ (0 ≤ x.toInt ∧ x.toInt ≤ 99)) : ff_X6_lacks M b x = some (-1) := by
  simp (decide := true) only [if_true, if_false, ff_X6_lacks, is_99, ci10, if_neg hx, Option.bind_some]
theorem r_stripFor (hC : Ci M b k u pg tl tx) (hI : IP n k) {x : Int32} (hx : 0 ≤ x.toInt ∧ x.toInt ≤ 99) : ff_X6_stripFor M b x = some (if lk k x = 0 then 0 else if lk k x * k 2 + (lk k x - 1) * k 3 ≤ 1000 then mm_mx (lk k x * k 2 + (lk k x - 1) * k 3) 20 else -4) := by
  simp (decide := true) only [if_true, if_false, ff_X6_stripFor, is_99, ci10, if_pos hx, i_0 hC, c_s hC.st, v_lack hC.st hI hx.1 hx.2, g_s1 hC.st, g_t3 hC.st, g_t4 hC.st, Option.bind_some]
  unfold lk
  generalize mm_mx (wt k x - (k (308 + x.toInt.toNat) + rdy k x 10)) 0 = L
  by_cases h0 : L = 0
  · rw [if_pos h0, if_pos h0]
  · rw [if_neg h0, if_neg h0]
    by_cases h1 : L * k 2 + (L - 1) * k 3 ≤ 1000
    · rw [if_pos h1, if_pos h1]
    · rw [if_neg h1, if_neg h1]
theorem r_stripForN {x : Int32} (hx : ¬ (0 ≤ x.toInt ∧ x.toInt ≤ 99)) : ff_X6_stripFor M b x = some (-1) := by
  simp (decide := true) only [if_true, if_false, ff_X6_stripFor, is_99, ci10, if_neg hx, Option.bind_some]
theorem r_near (hC : Ci M b k u pg tl tx) (hI : IP n k) {x y : Int32} (hi : ins k x y) : ff_X6_nearest M b x y = some (if lx k x y = -1 then (if nf k (wn k x y).toInt = -1 then -4 else Int32.ofInt (nf k (wn k x y).toInt)) else -4) := by
  obtain ⟨f1, f2, f3, -⟩ := u_near hC.st hI.1 hI.2.1 hI.2.2.1 hi
  simp (decide := true) only [ff_X6_nearest, i_0 hC, g_s0 hC.st, c_p hC.st, c_s hC.st, p_has1 hC.st hi, u_isL hC.st hI.1 hi, f1, Option.bind_some, if_true, if_false, ci01]
  by_cases hl : lx k x y = -1
  · rw [if_pos hl, if_pos hl]
    by_cases hn : nf k (wn k x y).toInt = -1
    · rw [if_pos hn, hn]
      rfl
    · rw [if_neg hn, if_neg (ofI_n f2 f3 hn)]
  · rw [if_neg hl, if_neg hl]
theorem r_nearN (hC : Ci M b k u pg tl tx) {x y : Int32} (hi : ¬ ins k x y) : ff_X6_nearest M b x y = some (-1) := by
  simp only [ff_X6_nearest, i_0 hC, g_s0 hC.st, c_p hC.st, p_has0 hC.st hi, Option.bind_some, if_true]
theorem r_sN (hC : Ci M b k u pg tl tx) (hr : Rs k) {x : Int32} (hx : ¬ (0 ≤ x.toInt ∧ x.toInt < (k 6).toInt)) (w : Int32) : ff_X6_stripOf M b x w = some (-1) := by
  simp only [ff_X6_stripOf, i_0 hC, g_s1 hC.st, c_t hC.st, t_strip hC.st hr, Option.bind_some, if_neg hx, mm_oc]
theorem r_sx (hC : Ci M b k u pg tl tx) (hr : Rs k) {i : Nat} (hi : (i : Int) < (k 6).toInt) : ff_X6_stripOf M b (nI i) 0 = some (k (408 + 11 * i)) ∧ ff_X6_stripOf M b (nI i) 1 = some (k (409 + 11 * i)) ∧ ff_X6_stripOf M b (nI i) 2 = some (k (408 + 11 * i) - k (410 + 11 * i)) ∧ ff_X6_stripOf M b (nI i) 3 = some (k (411 + 11 * i)) ∧ ff_X6_stripOf M b (nI i) 4 = some (nI (ta k i)) ∧ ff_X6_stripOf M b (nI i) 5 = some (nI (ga k i)) ∧ ff_X6_stripOf M b (nI i) 6 = some (k (412 + 11 * i)) := by
  have h := hC.st
  have h6 := hr.2.2.1
  have ei := zz_nI i (by omega)
  have hi10 : i < 10 := by omega
  have ts := t_strip h hr (nI i)
  rw [if_pos (by omega), show (nI i).toInt.toNat = i by omega] at ts
  refine ⟨?_, ?_, ?_, ?_, ?_, ?_, ?_⟩
  · simp (decide := true) only [ff_X6_stripOf, i_0 hC, g_s1 h, c_t h, ts, mm_oc, g_r2 h hi10, Option.bind_some, if_true, if_false]
  · simp (decide := true) only [ff_X6_stripOf, i_0 hC, g_s1 h, c_t h, ts, mm_oc, g_r3 h hi10, Option.bind_some, if_true, if_false]
  · simp (decide := true) only [ff_X6_stripOf, i_0 hC, g_s1 h, c_t h, ts, mm_oc, c_r h hi10, s_left h hi10, Option.bind_some, if_true, if_false]
  · simp (decide := true) only [ff_X6_stripOf, i_0 hC, g_s1 h, c_t h, ts, mm_oc, g_r1 h hi10, Option.bind_some, if_true, if_false]
  · simp (decide := true) only [ff_X6_stripOf, i_0 hC, g_s1 h, c_t h, ts, mm_oc, g_t3 h, g_t4 h, c_r h hi10, s_ta h hr hi10, Option.bind_some, if_true, if_false]
  · simp (decide := true) only [ff_X6_stripOf, i_0 hC, g_s1 h, c_t h, ts, mm_oc, g_t3 h, g_t4 h, c_r h hi10, s_ga h hr hi10, Option.bind_some, if_true, if_false]
  · simp (decide := true) only [ff_X6_stripOf, i_0 hC, g_s1 h, c_t h, ts, mm_oc, g_r5 h hi10, Option.bind_some, if_true, if_false]
theorem r_fault (hC : Ci M b k u pg tl tx) (ht : tl ≤ 80) : ∃ r, FR tx tl r ∧ ff_X6_fault M b = some (if r = -1 then -4 else r) := by
  obtain ⟨r, r1, r2⟩ := k_fault hC.2.2.2.2 ht
  refine ⟨r, r2, ?_⟩
  simp only [ff_X6_fault, i_3 hC, i_x hC, r1, Option.bind_some]
  split <;> rfl
end RA
