/-! what the calls that change something answer, and what they make of the pages -/
section WA
variable {n : Int} {b u tl : Nat} {M : mm_M} {k tx : Nat → Int32} {pg : Nat → Nat → Int32}
/-- a change: the page is kept, then altered -/
theorem w_fin {F : mm_M → Option (Int32 × mm_M)} (hC : Ci M b k u pg tl tx) (hu : u ≤ 5) {r : Int32} {k' : Nat → Int32}
    (c : ∀ Mk, ff_X0_keep M (b + 57) (b + 1) = some Mk → Ci Mk b k (uk u) (pgk u k pg) tl tx → ∃ M1, F M = some (r, M1) ∧ St M1 (b + 1) k' ∧ Fz (b + 1) Mk M1) : ∃ M1, F M = some (r, M1) ∧ Ci M1 b k' (uk u) (pgk u k pg) tl tx := by
  obtain ⟨Mk, a1, a2, -⟩ := c_keep hC hu
  obtain ⟨M1, b1, b2, b3⟩ := c Mk a1 a2
  exact ⟨M1, b1, (Ci_now a2 b2 b3).1⟩
theorem w_floor (hC : Ci M b k u pg tl tx) (hu : u ≤ 5) {c r : Int32} (hc : 3 ≤ c.toInt ∧ c.toInt ≤ 12) (hr : 3 ≤ r.toInt ∧ r.toInt ≤ 12) (hl : lc k ≤ 0) : ∃ M1, ff_X6_floor M b c r = some (c * r, M1) ∧ Ci M1 b (pBe k c r) (uk u) (pgk u k pg) tl tx := by
  have hc' : (3 : Int32).toInt ≤ c.toInt ∧ c.toInt ≤ (12 : Int32).toInt := hc
  have hr' : (3 : Int32).toInt ≤ r.toInt ∧ r.toInt ≤ (12 : Int32).toInt := hr
  refine w_fin (F := fun M => ff_X6_floor M b c r) hC hu (fun Mk hk hCk => ?_)
  obtain ⟨M1, a1, a2, a3⟩ := p_begin hCk.st c r
  refine ⟨M1, ?_, a2, a3⟩
  simp only [ff_X6_floor, t_within, if_pos hc', if_pos hr', i_0 hC, c_s hC.st, u_cells hC.st, i_2 hC, i_h hC, hk, i_0 hCk, g_s0 hCk.st, c_p hCk.st, a1, Option.bind_some]
  rw [if_neg (by decide), if_neg (by decide), if_pos hl]
theorem w_floorS (hC : Ci M b k u pg tl tx) {c r : Int32} (hc : 3 ≤ c.toInt ∧ c.toInt ≤ 12) (hr : 3 ≤ r.toInt ∧ r.toInt ≤ 12) (hl : ¬ lc k ≤ 0) : ff_X6_floor M b c r = some (-2, M) := by
  have hc' : (3 : Int32).toInt ≤ c.toInt ∧ c.toInt ≤ (12 : Int32).toInt := hc
  have hr' : (3 : Int32).toInt ≤ r.toInt ∧ r.toInt ≤ (12 : Int32).toInt := hr
  simp only [ff_X6_floor, t_within, if_pos hc', if_pos hr', i_0 hC, c_s hC.st, u_cells hC.st, Option.bind_some]
  rw [if_neg (by decide), if_neg (by decide), if_neg hl]
theorem w_floorI {c r : Int32} (h : ¬ (3 ≤ c.toInt ∧ c.toInt ≤ 12) ∨ ¬ (3 ≤ r.toInt ∧ r.toInt ≤ 12)) : ff_X6_floor M b c r = some (-1, M) := by
  by_cases hc : (3 : Int32).toInt ≤ c.toInt ∧ c.toInt ≤ (12 : Int32).toInt
  · have hr : ¬ ((3 : Int32).toInt ≤ r.toInt ∧ r.toInt ≤ (12 : Int32).toInt) := h.resolve_left (fun q => q hc)
    simp only [ff_X6_floor, t_within, if_pos hc, if_neg hr, Option.bind_some]
    rw [if_neg (by decide), if_pos trivial]
  · simp only [ff_X6_floor, t_within, if_neg hc, Option.bind_some]
    rw [if_pos trivial]
theorem w_way (hC : Ci M b k u pg tl tx) (hu : u ≤ 5) {c : Int32} (hc : 0 ≤ c.toInt ∧ c.toInt ≤ 2) (hl : lc k ≤ 0) : ∃ M1, ff_X6_way M b c = some (k 5, M1) ∧ Ci M1 b (upd k 5 c) (uk u) (pgk u k pg) tl tx := by
  have hc' : (0 : Int32).toInt ≤ c.toInt ∧ c.toInt ≤ (2 : Int32).toInt := hc
  refine w_fin (F := fun M => ff_X6_way M b c) hC hu (fun Mk hk hCk => ?_)
  obtain ⟨M1, a1, a2, a3⟩ := w_p3 hCk.st c
  refine ⟨M1, ?_, a2, a3⟩
  simp only [ff_X6_way, t_within, if_pos hc', i_0 hC, c_s hC.st, u_cells hC.st, i_2 hC, i_h hC, hk, i_0 hCk, g_s0 hCk.st, g_p3 hCk.st, a1, Option.bind_some]
  rw [if_neg (by decide), if_pos hl]
theorem w_wayS (hC : Ci M b k u pg tl tx) {c : Int32} (hc : 0 ≤ c.toInt ∧ c.toInt ≤ 2) (hl : ¬ lc k ≤ 0) : ff_X6_way M b c = some (-2, M) := by
  have hc' : (0 : Int32).toInt ≤ c.toInt ∧ c.toInt ≤ (2 : Int32).toInt := hc
  simp only [ff_X6_way, t_within, if_pos hc', i_0 hC, c_s hC.st, u_cells hC.st, Option.bind_some]
  rw [if_neg (by decide), if_neg hl]
theorem w_wayI {c : Int32} (hc : ¬ (0 ≤ c.toInt ∧ c.toInt ≤ 2)) : ff_X6_way M b c = some (-1, M) := by
  have hc' : ¬ ((0 : Int32).toInt ≤ c.toInt ∧ c.toInt ≤ (2 : Int32).toInt) := hc
  simp only [ff_X6_way, t_within, if_neg hc', Option.bind_some]
  rw [if_pos trivial]
theorem w_size (hC : Ci M b k u pg tl tx) (hu : u ≤ 5) {v : Int32} (hc : 5 ≤ v.toInt ∧ v.toInt ≤ 60) (hl : lc k ≤ 0) : ∃ M1, ff_X6_set M b 0 v = some (k 2, M1) ∧ Ci M1 b (upd (pTh k) 2 v) (uk u) (pgk u k pg) tl tx := by
  have hc' : (5 : Int32).toInt ≤ v.toInt ∧ v.toInt ≤ (60 : Int32).toInt := hc
  refine w_fin (F := fun M => ff_X6_set M b 0 v) hC hu (fun Mk hk hCk => ?_)
  obtain ⟨M2, t1, t2, t3⟩ := t_throw hCk.st
  obtain ⟨c2, -⟩ := Ci_now hCk t2 t3
  obtain ⟨M1, a1, a2, a3⟩ := w_t3 t2 v
  refine ⟨M1, ?_, a2, Fz_tr t3 a3⟩
  simp only [ff_X6_set, ff_X6_changeSize, t_within, if_pos hc', i_c hC, i_0 hC, c_s hC.st, u_cells hC.st, i_2 hC, i_h hC, hk, i_0 hCk, g_s1 hCk.st, g_t3 hCk.st, c_t hCk.st, t1, i_0 c2, g_s1 t2, a1, mm_u2, Option.bind_some, if_true]
  rw [if_neg (by decide), if_pos hl]
  rfl
theorem w_sizeS (hC : Ci M b k u pg tl tx) {v : Int32} (hc : 5 ≤ v.toInt ∧ v.toInt ≤ 60) (hl : ¬ lc k ≤ 0) : ff_X6_set M b 0 v = some (-2, M) := by
  have hc' : (5 : Int32).toInt ≤ v.toInt ∧ v.toInt ≤ (60 : Int32).toInt := hc
  simp only [ff_X6_set, ff_X6_changeSize, t_within, if_pos hc', i_c hC, i_0 hC, c_s hC.st, u_cells hC.st, mm_u2, Option.bind_some, if_true]
  rw [if_neg (by decide), if_neg hl]
  rfl
theorem w_sizeI (hC : Ci M b k u pg tl tx) {v : Int32} (hc : ¬ (5 ≤ v.toInt ∧ v.toInt ≤ 60)) : ff_X6_set M b 0 v = some (-1, M) := by
  have hc' : ¬ ((5 : Int32).toInt ≤ v.toInt ∧ v.toInt ≤ (60 : Int32).toInt) := hc
  simp only [ff_X6_set, ff_X6_changeSize, t_within, if_neg hc', i_c hC, mm_u2, Option.bind_some, if_true]
theorem w_loss (hC : Ci M b k u pg tl tx) (hu : u ≤ 5) {v : Int32} (hc : 0 ≤ v.toInt ∧ v.toInt ≤ 5) : ∃ M1, ff_X6_set M b 1 v = some (k 3, M1) ∧ Ci M1 b (upd k 3 v) (uk u) (pgk u k pg) tl tx := by
  have hc' : (0 : Int32).toInt ≤ v.toInt ∧ v.toInt ≤ (5 : Int32).toInt := hc
  refine w_fin (F := fun M => ff_X6_set M b 1 v) hC hu (fun Mk hk hCk => ?_)
  obtain ⟨M1, a1, a2, a3⟩ := w_t4 hCk.st v
  refine ⟨M1, ?_, a2, a3⟩
  simp (decide := true) only [ff_X6_set, ff_X6_changeLoss, t_within, if_pos hc', i_c hC, i_0 hC, i_2 hC, i_h hC, hk, i_0 hCk, g_s1 hCk.st, g_t4 hCk.st, a1, mm_u2, Option.bind_some, if_true, if_false]
theorem w_lossI (hC : Ci M b k u pg tl tx) {v : Int32} (hc : ¬ (0 ≤ v.toInt ∧ v.toInt ≤ 5)) : ff_X6_set M b 1 v = some (-1, M) := by
  have hc' : ¬ ((0 : Int32).toInt ≤ v.toInt ∧ v.toInt ≤ (5 : Int32).toInt) := hc
  simp (decide := true) only [ff_X6_set, ff_X6_changeLoss, t_within, if_neg hc', i_c hC, mm_u2, Option.bind_some, if_true, if_false]
theorem w_setI {v : Int32} : ff_X6_set M b 2 v = some (-1, M) := by
  simp (decide := true) only [ff_X6_set, if_true, if_false]
theorem w_want (hC : Ci M b k u pg tl tx) (hu : u ≤ 5) (hp : Rp k) {x y : Nat} {v : Int32} (hx : (x : Int) < (k 0).toInt) (hy : (y : Int) < (k 1).toInt) (hin : ins k (nI x) (nI y)) (hv : 0 ≤ v.toInt ∧ v.toInt ≤ 99) (hb : ¬ bor k (nI x) (nI y)) (hl : lx k (nI x) (nI y) = -1) : ∃ M1, ff_X6_want M b (nI x) (nI y) v = some (wn k (nI x) (nI y), M1) ∧ Ci M1 b (upd k (20 + (12 * y + x)) v) (uk u) (pgk u k pg) tl tx := by
  refine w_fin (F := fun M => ff_X6_want M b (nI x) (nI y) v) hC hu (fun Mk hk hCk => ?_)
  have h := hC.st
  obtain ⟨M1, a1, a2, a3⟩ := p_wif hCk.st hp hx hy v
  refine ⟨M1, ?_, a2, a3⟩
  simp (decide := true) only [ff_X6_want, i_0 hC, g_s0 h, c_p h, c_s h, p_has1 h hin, is_99, if_pos hv, p_bor0 h hp hb, u_isL h hp hin, if_pos hl, i_2 hC, i_h hC, hk, i_0 hCk, g_s0 hCk.st, c_p hCk.st, p_want hCk.st hp hin, a1, Option.bind_some, if_true, if_false]
theorem w_wantS (hC : Ci M b k u pg tl tx) (hp : Rp k) {x y v : Int32} (hin : ins k x y) (hv : 0 ≤ v.toInt ∧ v.toInt ≤ 99) (hb : bor k x y ∨ lx k x y ≠ -1) : ff_X6_want M b x y v = some (-2, M) := by
  have h := hC.st
  by_cases hbo : bor k x y
  · simp (decide := true) only [ff_X6_want, i_0 hC, g_s0 h, c_p h, p_has1 h hin, is_99, if_pos hv, p_bor1 h hp hbo, Option.bind_some, if_true, if_false]
  · have hl := hb.resolve_left hbo
    simp (decide := true) only [ff_X6_want, i_0 hC, g_s0 h, c_p h, c_s h, p_has1 h hin, is_99, if_pos hv, p_bor0 h hp hbo, u_isL h hp hin, if_neg hl, Option.bind_some, if_true, if_false]
theorem w_wantI (hC : Ci M b k u pg tl tx) {x y v : Int32} (hin : ¬ ins k x y ∨ ¬ (0 ≤ v.toInt ∧ v.toInt ≤ 99)) : ff_X6_want M b x y v = some (-1, M) := by
  have h := hC.st
  by_cases hi : ins k x y
  · have hv := hin.resolve_left (fun q => q hi)
    simp (decide := true) only [ff_X6_want, i_0 hC, g_s0 h, c_p h, p_has1 h hi, is_99, if_neg hv, Option.bind_some, if_true, if_false]
  · simp (decide := true) only [ff_X6_want, i_0 hC, g_s0 h, c_p h, p_has0 h hi, Option.bind_some, if_true, if_false]
theorem w_strip (hC : Ci M b k u pg tl tx) (hu : u ≤ 5) {i : Nat} (hi : i < 10) (ei : k 6 = nI i) {L s : Int32} (hL : 20 ≤ L.toInt ∧ L.toInt ≤ 1000) (hs : 0 ≤ s.toInt ∧ s.toInt ≤ 99) : ∃ M1, ff_X6_strip M b L s = some (nI i, M1) ∧ Ci M1 b (pAs k i L s) (uk u) (pgk u k pg) tl tx := by
  have hL' : (20 : Int32).toInt ≤ L.toInt ∧ L.toInt ≤ (1000 : Int32).toInt := hL
  have c6 : k 6 < 10 := by rw [zz_lt, z10, ei, zz_nI i (by omega)]; omega
  have h := hC.st
  refine w_fin (F := fun M => ff_X6_strip M b L s) hC hu (fun Mk hk hCk => ?_)
  obtain ⟨M1, a1, a2, a3⟩ := t_addStrip hCk.st hi ei L s
  refine ⟨M1, ?_, a2, a3⟩
  simp (decide := true) only [ff_X6_strip, t_within, if_pos hL', is_99, if_pos hs, i_0 hC, g_s1 h, g_t2 h, if_pos c6, i_2 hC, i_h hC, hk, i_0 hCk, g_s1 hCk.st, c_t hCk.st, a1, mm_u2, Option.bind_some, if_true, if_false]
theorem w_stripL (hC : Ci M b k u pg tl tx) (h6 : (k 6).toInt = 10) {L s : Int32} (hL : 20 ≤ L.toInt ∧ L.toInt ≤ 1000) (hs : 0 ≤ s.toInt ∧ s.toInt ≤ 99) : ff_X6_strip M b L s = some (-3, M) := by
  have hL' : (20 : Int32).toInt ≤ L.toInt ∧ L.toInt ≤ (1000 : Int32).toInt := hL
  have c6 : ¬ k 6 < 10 := by rw [zz_lt, z10]; omega
  have h := hC.st
  simp (decide := true) only [ff_X6_strip, t_within, if_pos hL', is_99, if_pos hs, i_0 hC, g_s1 h, g_t2 h, if_neg c6, Option.bind_some, if_true, if_false]
theorem w_stripI {L s : Int32} (h : ¬ (20 ≤ L.toInt ∧ L.toInt ≤ 1000) ∨ ¬ (0 ≤ s.toInt ∧ s.toInt ≤ 99)) : ff_X6_strip M b L s = some (-1, M) := by
  by_cases hL : (20 : Int32).toInt ≤ L.toInt ∧ L.toInt ≤ (1000 : Int32).toInt
  · have hs := h.resolve_left (fun q => q hL)
    simp (decide := true) only [ff_X6_strip, t_within, if_pos hL, is_99, if_neg hs, Option.bind_some, if_true, if_false]
  · simp (decide := true) only [ff_X6_strip, t_within, if_neg hL, Option.bind_some, if_true, if_false]
theorem w_flaw (hC : Ci M b k u pg tl tx) (hu : u ≤ 5) (hr : Rs k) {i : Nat} (hi : (i : Int) < (k 6).toInt) {v : Int32} (hv : (k (410 + 11 * i)).toInt ≤ v.toInt ∧ v.toInt < (k (408 + 11 * i)).toInt) (hq : hf k i v.toInt (v + 1).toInt = false) (h5 : (k (411 + 11 * i)).toInt < 6) : ∃ M1, ff_X6_flaw M b (nI i) v = some (k (411 + 11 * i) + 1, M1) ∧ Ci M1 b (pFl k i v) (uk u) (pgk u k pg) tl tx := by
  have h := hC.st
  have h6 := hr.2.2.1
  have ei := zz_nI i (by omega)
  have hi10 : i < 10 := by omega
  have hs := hr.2.2.2 i hi10
  have ts := t_strip h hr (nI i)
  rw [if_pos (by omega), show (nI i).toInt.toNat = i by omega] at ts
  have hv1 : (0 : Int32).toInt ≤ v.toInt ∧ v.toInt ≤ (999 : Int32).toInt := by rw [z0, e999i]; omega
  have el : (k (408 + 11 * i) - 1).toInt = (k (408 + 11 * i)).toInt - 1 := zz_s (by rw [z1]; omega) (by rw [z1]; omega)
  have hv2 : (k (410 + 11 * i)).toInt ≤ v.toInt ∧ v.toInt ≤ (k (408 + 11 * i) - 1).toInt := by omega
  have c5 : k (411 + 11 * i) < 6 := by rw [zz_lt, e6i]; exact h5
  have hfl : ¬ hf k i v.toInt (v + 1).toInt = true := by rw [hq]; decide
  refine w_fin (F := fun M => ff_X6_flaw M b (nI i) v) hC hu (fun Mk hk hCk => ?_)
  obtain ⟨M1, a1, a2, a3⟩ := t_flaw hCk.st hi10 hs.2.2.2.1.1 h5 v
  refine ⟨M1, ?_, a2, a3⟩
  have e3 : pFl k i v (411 + 11 * i) = k (411 + 11 * i) + 1 := by unfold pFl; rw [upd_s]
  simp (decide := true) only [ff_X6_flaw, i_0 hC, g_s1 h, c_t h, ts, mm_oc, t_within, if_pos hv1, g_r4 h hi10, g_r2 h hi10, if_pos hv2, c_r h hi10, s_hf h hr hi10, if_neg hfl, g_r1 h hi10, if_pos c5, i_2 hC, i_h hC, hk, c_r hCk.st hi10, a1, g_r1 a2 hi10, e3, Option.bind_some, if_true, if_false]
theorem w_flawI (hC : Ci M b k u pg tl tx) (hr : Rs k) {x : Int32} (hx : ¬ (0 ≤ x.toInt ∧ x.toInt < (k 6).toInt)) (v : Int32) : ff_X6_flaw M b x v = some (-1, M) := by
  have h := hC.st
  have ts := t_strip h hr x
  rw [if_neg hx] at ts
  simp (decide := true) only [ff_X6_flaw, i_0 hC, g_s1 h, c_t h, ts, mm_oc, Option.bind_some, if_true, if_false]
theorem w_cut (hC : Ci M b k u pg tl tx) (hu : u ≤ 5) (hr : Rs k) {i : Nat} (hi : (i : Int) < (k 6).toInt) (hc : 0 < ta k i) : ∃ M1, ff_X6_cut M b (nI i) = some (if tg k i 0 then 1 else 0, M1) ∧ Ci M1 b (ph k i) (uk u) (pgk u k pg) tl tx := by
  have h := hC.st
  have h6 := hr.2.2.1
  have ei := zz_nI i (by omega)
  have hi10 : i < 10 := by omega
  have hs := hr.2.2.2 i hi10
  have ts := t_strip h hr (nI i)
  rw [if_pos (by omega), show (nI i).toInt.toNat = i by omega] at ts
  have el : (k (408 + 11 * i) - k (410 + 11 * i)).toInt = (k (408 + 11 * i)).toInt - (k (410 + 11 * i)).toInt := zz_s (by omega) (by omega)
  have h0 := ta_iff hr (i := i) 0
  have e0 : tp k i 0 = (k (410 + 11 * i)).toInt := by unfold tp; simp
  rw [e0] at h0
  have hc1 := h0.mp hc
  have cc : k 2 ≤ k (408 + 11 * i) - k (410 + 11 * i) := by rw [zz_le, el]; omega
  refine w_fin (F := fun M => ff_X6_cut M b (nI i)) hC hu (fun Mk hk hCk => ?_)
  obtain ⟨M1, a1, a2, a3⟩ := t_cut hCk.st hr hi10 hc
  refine ⟨M1, ?_, a2, a3⟩
  simp (decide := true) only [ff_X6_cut, i_0 hC, g_s1 h, c_t h, ts, mm_oc, c_r h hi10, s_left h hi10, g_t3 h, if_pos cc, i_2 hC, i_h hC, hk, i_0 hCk, g_s1 hCk.st, c_t hCk.st, a1, mm_u2, ci10, Option.bind_some, if_true, if_false]
  split <;> rfl
theorem w_cutS (hC : Ci M b k u pg tl tx) (hr : Rs k) {i : Nat} (hi : (i : Int) < (k 6).toInt) (hc : ¬ 0 < ta k i) : ff_X6_cut M b (nI i) = some (-2, M) := by
  have h := hC.st
  have h6 := hr.2.2.1
  have ei := zz_nI i (by omega)
  have hi10 : i < 10 := by omega
  have hs := hr.2.2.2 i hi10
  have ts := t_strip h hr (nI i)
  rw [if_pos (by omega), show (nI i).toInt.toNat = i by omega] at ts
  have el : (k (408 + 11 * i) - k (410 + 11 * i)).toInt = (k (408 + 11 * i)).toInt - (k (410 + 11 * i)).toInt := zz_s (by omega) (by omega)
  have h0 := ta_iff hr (i := i) 0
  have e0 : tp k i 0 = (k (410 + 11 * i)).toInt := by unfold tp; simp
  rw [e0] at h0
  have hc1 : ¬ (k (410 + 11 * i)).toInt + (k 2).toInt ≤ (k (408 + 11 * i)).toInt := fun q => hc (h0.mpr q)
  have cc : ¬ k 2 ≤ k (408 + 11 * i) - k (410 + 11 * i) := by rw [zz_le, el]; omega
  simp (decide := true) only [ff_X6_cut, i_0 hC, g_s1 h, c_t h, ts, mm_oc, c_r h hi10, s_left h hi10, g_t3 h, if_neg cc, Option.bind_some, if_true, if_false]
theorem w_cutI (hC : Ci M b k u pg tl tx) (hr : Rs k) {x : Int32} (hx : ¬ (0 ≤ x.toInt ∧ x.toInt < (k 6).toInt)) : ff_X6_cut M b x = some (-1, M) := by
  have h := hC.st
  have ts := t_strip h hr x
  rw [if_neg hx] at ts
  simp (decide := true) only [ff_X6_cut, i_0 hC, g_s1 h, c_t h, ts, mm_oc, Option.bind_some, if_true, if_false]
theorem pL_at {x y : Int32} (hl : lx k x y = -1) (hf : nf k (wn k x y).toInt ≠ -1) : lx (pL k x y) x y = Int32.ofInt (nf k (wn k x y).toInt) := by
  unfold pL
  rw [if_pos hl, if_neg hf]
  unfold lx
  rw [upd_s]
theorem w_lay (hC : Ci M b k u pg tl tx) (hu : u ≤ 5) (hI : IP n k) {x y : Int32} (hin : ins k x y) (hl : lx k x y = -1) (hf : nf k (wn k x y).toInt ≠ -1) : ∃ M1, ff_X6_lay M b x y = some (Int32.ofInt (nf k (wn k x y).toInt), M1) ∧ Ci M1 b (pL k x y) (uk u) (pgk u k pg) tl tx := by
  have h := hC.st
  obtain ⟨f6, f7, f8, f9⟩ := u_near h hI.1 hI.2.1 hI.2.2.1 hin
  have e1 : ¬ Int32.ofInt (nf k (wn k x y).toInt) = -1 := ofI_n f7 f8 hf
  have elx := pL_at hl hf
  refine w_fin (F := fun M => ff_X6_lay M b x y) hC hu (fun Mk hk hCk => ?_)
  obtain ⟨M1, a1, a2, a3, a4⟩ := v_layI hCk.st hI hin
  refine ⟨M1, ?_, a2, a3⟩
  obtain ⟨c1, -⟩ := Ci_now hCk a2 a3
  have l7 := u_laid a2 a4.1 (ins_congr (pL_w (by omega) (by omega) (by omega) (by omega)) (pL_w (by omega) (by omega) (by omega) (by omega)) hin)
  rw [elx] at l7
  simp (decide := true) only [ff_X6_lay, i_0 hC, g_s0 h, c_p h, c_s h, p_has1 h hin, u_isL h hI.1 hin, if_pos hl, f6, if_neg e1, i_2 hC, i_h hC, hk, i_0 hCk, c_s hCk.st, a1, i_0 c1, c_s a2, l7, Option.bind_some, if_true, if_false]
theorem w_layS (hC : Ci M b k u pg tl tx) (hI : IP n k) {x y : Int32} (hin : ins k x y) (hl : lx k x y ≠ -1 ∨ nf k (wn k x y).toInt = -1) : ff_X6_lay M b x y = some (-2, M) := by
  have h := hC.st
  obtain ⟨f6, f7, f8, f9⟩ := u_near h hI.1 hI.2.1 hI.2.2.1 hin
  by_cases hx : lx k x y = -1
  · have hf := hl.resolve_left (fun q => q hx)
    have e1 : Int32.ofInt (nf k (wn k x y).toInt) = -1 := by rw [hf]; rfl
    simp (decide := true) only [ff_X6_lay, i_0 hC, g_s0 h, c_p h, c_s h, p_has1 h hin, u_isL h hI.1 hin, if_pos hx, f6, if_pos e1, Option.bind_some, if_true, if_false]
  · simp (decide := true) only [ff_X6_lay, i_0 hC, g_s0 h, c_p h, c_s h, p_has1 h hin, u_isL h hI.1 hin, if_neg hx, Option.bind_some, if_true, if_false]
theorem w_layI (hC : Ci M b k u pg tl tx) {x y : Int32} (hin : ¬ ins k x y) : ff_X6_lay M b x y = some (-1, M) := by
  simp (decide := true) only [ff_X6_lay, i_0 hC, g_s0 hC.st, c_p hC.st, p_has0 hC.st hin, Option.bind_some, if_true, if_false]
theorem w_layAll (hC : Ci M b k u pg tl tx) (hu : u ≤ 5) (hI : IP n k) : ∃ M1, ff_X6_layAll M b = some (lc (pA k) - lc k, M1) ∧ Ci M1 b (pA k) (uk u) (pgk u k pg) tl tx := by
  refine w_fin (F := fun M => ff_X6_layAll M b) hC hu (fun Mk hk hCk => ?_)
  obtain ⟨M1, a1, a2, a3, a4⟩ := v_layAll hCk.st hI
  refine ⟨M1, ?_, a2, a3⟩
  simp only [ff_X6_layAll, i_2 hC, i_0 hC, i_h hC, hk, i_0 hCk, c_s hCk.st, a1, mm_u2, Option.bind_some]
theorem w_lift (hC : Ci M b k u pg tl tx) (hu : u ≤ 5) (hI : IP n k) {x y : Int32} (hin : ins k x y) (hl : lx k x y ≠ -1) : ∃ M1, ff_X6_lift M b x y = some ((if (k 7 + 1) - (k 7 + 1) / 3 * 3 = 0 then 0 else 1), M1) ∧ Ci M1 b (pli k x y) (uk u) (pgk u k pg) tl tx := by
  have h := hC.st
  refine w_fin (F := fun M => ff_X6_lift M b x y) hC hu (fun Mk hk hCk => ?_)
  obtain ⟨M1, a1, a2, a3⟩ := v_lift hCk.st hI hin hl
  refine ⟨M1, ?_, a2, a3⟩
  by_cases hm : (k 7 + 1) - (k 7 + 1) / 3 * 3 = 0
  · rw [if_pos hm] at a1 ⊢
    simp (decide := true) only [ff_X6_lift, i_0 hC, g_s0 h, c_p h, c_s h, p_has1 h hin, u_isL h hI.1 hin, if_neg hl, i_2 hC, i_h hC, hk, i_0 hCk, c_s hCk.st, a1, mm_u2, Option.bind_some, if_true, if_false]
  · rw [if_neg hm] at a1 ⊢
    simp (decide := true) only [ff_X6_lift, i_0 hC, g_s0 h, c_p h, c_s h, p_has1 h hin, u_isL h hI.1 hin, if_neg hl, i_2 hC, i_h hC, hk, i_0 hCk, c_s hCk.st, a1, mm_u2, Option.bind_some, if_true, if_false]
theorem w_liftS (hC : Ci M b k u pg tl tx) (hI : IP n k) {x y : Int32} (hin : ins k x y) (hl : lx k x y = -1) : ff_X6_lift M b x y = some (-2, M) := by
  have h := hC.st
  simp (decide := true) only [ff_X6_lift, i_0 hC, g_s0 h, c_p h, c_s h, p_has1 h hin, u_isL h hI.1 hin, if_pos hl, Option.bind_some, if_true, if_false]
theorem w_liftI (hC : Ci M b k u pg tl tx) {x y : Int32} (hin : ¬ ins k x y) : ff_X6_lift M b x y = some (-1, M) := by
  simp (decide := true) only [ff_X6_lift, i_0 hC, g_s0 hC.st, c_p hC.st, p_has0 hC.st hin, Option.bind_some, if_true, if_false]
/-- the text is kept by a change, so a State alone tells -/
theorem w_undo (hC : Ci M b k u pg tl tx) (hu : u ≤ 5) (h0 : 0 < u) : ∃ M1, ff_X6_undo M b = some (nI (u - 1), M1) ∧ Ci M1 b (pg (u - 1)) (u - 1) pg tl tx := by
  have h := hC.st
  have eu := zz_nI u (by omega)
  obtain ⟨q1, q2, ⟨kt, q3⟩, ⟨sa, q4⟩, q5⟩ := id hC
  obtain ⟨M1, a1, a2, a3, a4⟩ := h_rest q4 h0 hu h (by omega)
  have c1 : Ci M1 b (pg (u - 1)) (u - 1) pg tl tx := ⟨by rw [a4 _ (by omega) (by omega)]; exact q1, a3, ⟨kt, St_kept q3 (fun q w1 w2 => a4 q (by omega) (by omega))⟩, ⟨sa, a2⟩, Tx_kept q5 (a4 _ (by omega) (by omega)) (a4 _ (by omega) (by omega))⟩
  refine ⟨M1, ?_, c1⟩
  simp only [ff_X6_undo, i_2 hC, i_0 hC, i_h hC, i_u hC, a1, i_2 c1, i_h c1, i_u c1, Option.bind_some]
  rw [if_neg (by rw [zz_e, z0]; omega)]
theorem w_undoS (hC : Ci M b k 0 pg tl tx) : ff_X6_undo M b = some (-2, M) := by
  simp (decide := true) only [ff_X6_undo, i_2 hC, i_h hC, i_u hC, Option.bind_some, if_true]
theorem w_type (hC : Ci M b k u pg tl tx) (ht : tl < 80) {x : Int32} (hx : 32 ≤ x.toInt ∧ x.toInt ≤ 126) : ∃ M1, ff_X6_type M b x = some (nI (tl + 1), M1) ∧ Ci M1 b k u pg (tl + 1) (upd tx tl x) := by
  have hx' : (32 : Int32).toInt ≤ x.toInt ∧ x.toInt ≤ (126 : Int32).toInt := hx
  have et := zz_nI tl (by omega)
  obtain ⟨q1, q2, ⟨kt, q3⟩, ⟨sa, q4⟩, q5⟩ := id hC
  obtain ⟨M1, a1, a2, a3⟩ := k_append q5 ht (c := x) hx.1 hx.2
  have c1 : Ci M1 b k u pg (tl + 1) (upd tx tl x) := ⟨by rw [a3 _ (by omega) (by omega)]; exact q1, St_kept q2 (fun q w1 w2 => a3 q (by omega) (by omega)), ⟨kt, St_kept q3 (fun q w1 w2 => a3 q (by omega) (by omega))⟩, ⟨sa, Hi_kept q4 (fun q w1 w2 => a3 q (by omega) (by omega))⟩, a2⟩
  refine ⟨M1, ?_, c1⟩
  simp (decide := true) only [ff_X6_type, t_within, if_pos hx', i_3 hC, k_len q5, k_ck q5, a1, i_3 c1, k_len a2, Option.bind_some, if_false]
  rw [if_pos (by rw [zz_lt, z80]; omega)]
theorem w_typeI {x : Int32} (hx : ¬ (32 ≤ x.toInt ∧ x.toInt ≤ 126)) : ff_X6_type M b x = some (-1, M) := by
  have hx' : ¬ ((32 : Int32).toInt ≤ x.toInt ∧ x.toInt ≤ (126 : Int32).toInt) := hx
  simp (decide := true) only [ff_X6_type, t_within, if_neg hx', Option.bind_some, if_true]
theorem w_clear (hC : Ci M b k u pg tl tx) : ∃ M1, ff_X6_clearText M b = some (nI tl, M1) ∧ Ci M1 b k u pg 0 tx := by
  obtain ⟨q1, q2, ⟨kt, q3⟩, ⟨sa, q4⟩, q5⟩ := id hC
  obtain ⟨w1, g, w2, w3⟩ := id q5
  have a1 : mm_pI 5 M (b + 199) 1 0 = some (mm_up M (b + 199) (.inl (5, [.ref (b + 199 + 1), .int 0]))) := wI w1 (by simp)
  have a3 : ∀ q, q ≠ b + 199 → mm_up M (b + 199) (.inl (5, [.ref (b + 199 + 1), .int 0])) q = M q := fun q hq => mm_up_n _ _ hq
  have a2 : Tx (mm_up M (b + 199) (.inl (5, [.ref (b + 199 + 1), .int 0]))) (b + 199) 0 tx := ⟨mm_up_s _ _ _, g, by rw [a3 _ (by omega)]; exact w2, fun j hj => by omega⟩
  generalize mm_up M (b + 199) (.inl (5, [.ref (b + 199 + 1), .int 0])) = M1 at a1 a2 a3
  refine ⟨M1, ?_, by rw [a3 _ (by omega)]; exact q1, St_kept q2 (fun q w1 w2 => a3 q (by omega)), ⟨kt, St_kept q3 (fun q w1 w2 => a3 q (by omega))⟩, ⟨sa, Hi_kept q4 (fun q w1 w2 => a3 q (by omega))⟩, a2⟩
  simp only [ff_X6_clearText, i_3 hC, k_len q5, a1, Option.bind_some]
theorem w_ifLaid (hC : Ci M b k u pg tl tx) (hI : IP n k) : ∃ M1, ff_X6_ifLaid M b = some (sd (pA k), M1) ∧ Ci M1 b k u pg tl tx := by
  obtain ⟨kt, h3⟩ := hC.2.2.1
  obtain ⟨M1, a1, a2, a3⟩ := v_copy h3 hC.st (by omega)
  obtain ⟨c1, -⟩ := Ci_trial hC a2 a3
  obtain ⟨M2, b1, b2, b3, b4⟩ := v_layAll a2 hI
  obtain ⟨c2, -⟩ := Ci_trial c1 b2 b3
  refine ⟨M2, ?_, c2⟩
  simp only [ff_X6_ifLaid, i_1 hC, i_0 hC, c_s h3, a1, i_1 c1, c_s a2, b1, mm_u2, i_1 c2, c_s b2, u_sumD b2 b4.1, Option.bind_some]
  rfl
/-- the page with the text's pattern -/
theorem w_pattern (hC : Ci M b k u pg tl tx) (hu : u ≤ 5) (ht : tl ≤ 80) {d e : Nat} (hau : au tx tl = some (d, e)) (hd : 0 < d) (hl : lc k ≤ 0) : ∃ (M1 : mm_M) (s : Nat → Int32), ff_X6_pattern M b = some (nI (e + 1), M1) ∧ (∀ j, j < e + 1 → s j = vv tx tl j) ∧ Ci M1 b (upd (fun j => if 12 ≤ j ∧ j < 20 then s (j - 12) else k j) 4 (nI (e + 1))) (uk u) (pgk u k pg) tl tx := by
  have h := hC.st
  obtain ⟨r, r1, r2⟩ := k_fault hC.2.2.2.2 ht
  have hr : r = -1 := FR_uniq r2 (Or.inr ⟨d, e, hau, by rw [if_neg (by omega)]⟩)
  obtain ⟨Mk, k1, k2, k3⟩ := c_keep hC hu
  obtain ⟨s0, p1, p2⟩ := k2.st.2.2.2.1
  obtain ⟨s, t1, t2⟩ := k_read k2.2.2.2.2 ht hau hd (q := b + 1 + 3) (by omega) (by omega) p1
  obtain ⟨y1, y2⟩ := y_p k2.st (v := fun j => s (j - 12)) (g := s) (fun j hj => by rw [Nat.add_sub_cancel_left])
  obtain ⟨c2, f2⟩ := Ci_now k2 y1 y2
  obtain ⟨M1, w1, w2, w3⟩ := w_p2 y1 (nI (e + 1))
  obtain ⟨c3, f3⟩ := Ci_now c2 w2 w3
  refine ⟨M1, s, ?_, t2, c3⟩
  have hg := g_p2 w2
  rw [upd_s] at hg
  simp (decide := true) only [ff_X6_pattern, ff_X1_takePattern, i_3 hC, i_x hC, r1, if_pos hr, i_0 hC, c_s h, u_cells h, if_pos hl, i_2 hC, i_h hC, k1, i_0 k2, g_s0 k2.st, i_3 k2, i_x k2, c_p k2.st, g_p1 k2.st, t1, mm_u2, w1, hg, Option.bind_some]
theorem w_patternS (hC : Ci M b k u pg tl tx) (ht : tl ≤ 80) (hl : ¬ lc k ≤ 0) : ff_X6_pattern M b = some (-2, M) := by
  have h := hC.st
  obtain ⟨r, r1, r2⟩ := k_fault hC.2.2.2.2 ht
  by_cases hr : r = -1
  · simp (decide := true) only [ff_X6_pattern, i_3 hC, i_x hC, r1, if_pos hr, i_0 hC, c_s h, u_cells h, if_neg hl, Option.bind_some]
  · simp (decide := true) only [ff_X6_pattern, i_3 hC, i_x hC, r1, if_neg hr, Option.bind_some]
end WA
