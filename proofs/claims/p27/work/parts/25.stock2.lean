/-! the stock's writings -/
/-- what a cut makes of the page, but for the tessera that comes to hand -/
def ps' (k : Nat → Int32) (i : Nat) : Int32 := mm_mn (k (410 + 11 * i) + k 2 + k 3) (k (408 + 11 * i))
def pc (k : Nat → Int32) (i : Nat) : Nat → Int32 :=
  if tg k i 0 then upd (upd (upd k (410 + 11 * i) (ps' k i)) (412 + 11 * i) (k (412 + 11 * i) + 1)) 10 (k 10 + ((k (408 + 11 * i) - k (410 + 11 * i)) - k 2 - (k (408 + 11 * i) - ps' k i)))
  else upd (upd (upd (upd k (410 + 11 * i) (ps' k i)) 10 (k 10 + ((k (408 + 11 * i) - k (410 + 11 * i)) - k 2 - (k (408 + 11 * i) - ps' k i)))) 8 (k 8 + 1)) 9 (k 9 + k 2)
/-- and with it -/
def ph (k : Nat → Int32) (i : Nat) : Nat → Int32 := if tg k i 0 then upd (pc k i) (308 + (k (409 + 11 * i)).toInt.toNat) (k (308 + (k (409 + 11 * i)).toInt.toNat) + 1) else pc k i
section SW
variable {M : mm_M} {z : Nat} {k : Nat → Int32}
theorem t_wi {a : Int32} (h0 : 0 ≤ a.toInt) (h1 : a.toInt ≤ 99) : ff_X6_isShade M a = some 1 := by
  simp only [ff_X6_isShade, zz_lt, zz_le, z0, z100]
  rw [if_neg (by omega), if_neg (by omega)]
theorem t_wi0 {a : Int32} (h : a.toInt < 0 ∨ 100 ≤ a.toInt) : ff_X6_isShade M a = some 0 := by
  simp only [ff_X6_isShade, zz_lt, zz_le, z0, z100]
  split
  · rfl
  · rw [if_pos (by omega)]
theorem t_within (a b c : Int32) : ff_X6_isWithin M a b c = some (if b.toInt ≤ a.toInt ∧ a.toInt ≤ c.toInt then 1 else 0) := by
  simp only [ff_X6_isWithin, zz_lt]
  split
  · rw [if_neg (by omega)]
  · split
    · rw [if_neg (by omega)]
    · rw [if_pos (by omega)]
theorem t_hand (h : St M z k) {a : Int32} (h0 : 0 ≤ a.toInt) (h1 : a.toInt ≤ 99) : ff_X3_atHandOf M (z + 4) a = some (k (308 + a.toInt.toNat)) := by
  simp only [ff_X3_atHandOf, t_wi h0 h1, g_t1 h, a_h h h0 (by omega), Option.bind_some]
  rw [if_neg (by decide)]
theorem t_put (h : St M z k) {a : Int32} (h0 : 0 ≤ a.toInt) (h1 : a.toInt ≤ 99) : ∃ M', ff_X3_putAtHand M (z + 4) a = some M' ∧ St M' z (upd k (308 + a.toInt.toNat) (k (308 + a.toInt.toNat) + 1)) ∧ Fz z M M' := by
  obtain ⟨M1, e1, S1, F1⟩ := w_h h h0 (by omega) (k (308 + a.toInt.toNat) + 1)
  refine ⟨M1, ?_, S1, F1⟩
  simp only [ff_X3_putAtHand, t_wi h0 h1, g_t1 h, a_h h h0 (by omega), e1, Option.bind_some]
  rw [if_neg (by decide)]
theorem t_take (h : St M z k) {a : Int32} (h0 : 0 ≤ a.toInt) (h1 : a.toInt ≤ 99) (hp : 0 < (k (308 + a.toInt.toNat)).toInt) : ∃ M', ff_X3_takeFromHand M (z + 4) a = some M' ∧ St M' z (upd k (308 + a.toInt.toNat) (k (308 + a.toInt.toNat) - 1)) ∧ Fz z M M' := by
  obtain ⟨M1, e1, S1, F1⟩ := w_h h h0 (by omega) (k (308 + a.toInt.toNat) - 1)
  refine ⟨M1, ?_, S1, F1⟩
  simp only [ff_X3_takeFromHand, c_t h, t_hand h h0 h1, g_t1 h, a_h h h0 (by omega), e1, Option.bind_some]
  rw [if_neg (by rw [zz_le, z0]; omega)]
theorem t_broken (h : St M z k) : ∃ M', ff_X3_addBroken M (z + 4) = some M' ∧ St M' z (upd (upd k 8 (k 8 + 1)) 9 (k 9 + k 2)) ∧ Fz z M M' := by
  obtain ⟨M1, e1, S1, F1⟩ := w_t5 h (k 8 + 1)
  have r1 : mm_gI 3 M1 (z + 4) 6 = some (k 9) := by rw [g_t6 S1, upd_n (by omega)]
  have r2 : mm_gI 3 M1 (z + 4) 3 = some (k 2) := by rw [g_t3 S1, upd_n (by omega)]
  obtain ⟨M2, e2, S2, F2⟩ := w_t6 S1 (k 9 + k 2)
  refine ⟨M2, ?_, S2, Fz_tr F1 F2⟩
  simp only [ff_X3_addBroken, g_t5 h, e1, r1, r2, e2, Option.bind_some]
theorem s_cutOff (h : St M z k) (hr : Rs k) {i : Nat} (hi : i < 10) (hc : 0 < ta k i) :
    ∃ M', ff_X4_cutOff M (z + 7 + 2 * i) (k 2) (k 3) = some ((if tg k i 0 then 1 else 0), M') ∧ St M' z (if tg k i 0 then upd (upd k (410 + 11 * i) (ps' k i)) (412 + 11 * i) (k (412 + 11 * i) + 1) else upd k (410 + 11 * i) (ps' k i)) ∧ Fz z M M' := by
  have hr' := hr
  have h00 := (ta_iff hr (i := i) 0).mp hc
  obtain ⟨h2, h3, h6, hs⟩ := hr
  have hsi := hs i hi
  have e0 : tp k i 0 = (k (410 + 11 * i)).toInt := by unfold tp; simp
  rw [e0] at h00
  have e1 : (k (410 + 11 * i) + k 2).toInt = (k (410 + 11 * i)).toInt + (k 2).toInt := zz_a (by omega) (by omega)
  obtain ⟨M1, f1, S1, F1⟩ := w_r4 h hi (ps' k i)
  have r1 : mm_gI 4 M1 (z + 7 + 2 * i) 5 = some (k (412 + 11 * i)) := by rw [g_r5 S1 hi, upd_n (by omega)]
  obtain ⟨M2, f2, S2, F2⟩ := w_r5 S1 hi (k (412 + 11 * i) + 1)
  have ef : mm_pI 4 M (z + 7 + 2 * i) 4 (mm_mn (k (410 + 11 * i) + k 2 + k 3) (k (408 + 11 * i))) = some M1 := f1
  have hh : hf k i (k (410 + 11 * i)).toInt ((k (410 + 11 * i)).toInt + (k 2).toInt) = !tg k i 0 := by simp [tg, e0]
  simp only [ff_X4_cutOff, ff_X4_cutOff_j22, g_r4 h hi, g_r2 h hi, c_r h hi, s_hf h hr' hi, e1, hh, ef, r1, f2, Option.bind_some]
  cases hg : tg k i 0 with
  | true => exact ⟨M2, by simp [zz_bz1], by simpa using S2, Fz_tr F1 F2⟩
  | false => exact ⟨M1, by simp [zz_bz0], by simpa using S1, F1⟩
theorem t_cut (h : St M z k) (hr : Rs k) {i : Nat} (hi : i < 10) (hc : 0 < ta k i) :
    ∃ M', ff_X3_cutFrom M (z + 4) (z + 7 + 2 * i) = some ((if tg k i 0 then 1 else 0), M') ∧ St M' z (ph k i) ∧ Fz z M M' := by
  obtain ⟨M1, e1, S1, F1⟩ := s_cutOff h hr hi hc
  have hs := hr.2.2.2 i hi
  cases hg : tg k i 0 with
  | true =>
    rw [hg] at e1 S1
    simp only [if_true] at S1
    have r1 : mm_gI 3 M1 (z + 4) 7 = some (k 10) := by rw [g_t7 S1, upd_n (by omega), upd_n (by omega)]
    have r2 : mm_gI 3 M1 (z + 4) 3 = some (k 2) := by rw [g_t3 S1, upd_n (by omega), upd_n (by omega)]
    have r3 : ff_X4_left M1 (z + 7 + 2 * i) = some (k (408 + 11 * i) - ps' k i) := by rw [s_left S1 hi, upd_n (by omega), upd_n (by omega), upd_n (by omega), upd_s]
    obtain ⟨M2, e2, S2, F2⟩ := w_t7 S1 (k 10 + ((k (408 + 11 * i) - k (410 + 11 * i)) - k 2 - (k (408 + 11 * i) - ps' k i)))
    have r4 : mm_gI 4 M2 (z + 7 + 2 * i) 3 = some (k (409 + 11 * i)) := by rw [g_r3 S2 hi, upd_n (by omega), upd_n (by omega), upd_n (by omega)]
    obtain ⟨M3, e3, S3, F3⟩ := t_put S2 (a := k (409 + 11 * i)) (by omega) (by omega)
    refine ⟨M3, ?_, ?_, Fz_tr F1 (Fz_tr F2 F3)⟩
    · simp only [ff_X3_cutFrom, c_r h hi, s_left h hi, g_t3 h, g_t4 h, e1, mm_u2, r1, r2, c_r S1 hi, r3, e2, r4, c_t S2, e3, Option.bind_some]
      simp [zz_bz1]
    · unfold ph pc
      simp only [hg, if_true]
      rw [upd_n (by omega), upd_n (by omega), upd_n (by omega)] at S3
      exact S3
  | false =>
    rw [hg] at e1 S1
    simp only [Bool.false_eq_true, if_false] at S1
    have r1 : mm_gI 3 M1 (z + 4) 7 = some (k 10) := by rw [g_t7 S1, upd_n (by omega)]
    have r2 : mm_gI 3 M1 (z + 4) 3 = some (k 2) := by rw [g_t3 S1, upd_n (by omega)]
    have r3 : ff_X4_left M1 (z + 7 + 2 * i) = some (k (408 + 11 * i) - ps' k i) := by rw [s_left S1 hi, upd_n (by omega), upd_s]
    obtain ⟨M2, e2, S2, F2⟩ := w_t7 S1 (k 10 + ((k (408 + 11 * i) - k (410 + 11 * i)) - k 2 - (k (408 + 11 * i) - ps' k i)))
    obtain ⟨M3, e3, S3, F3⟩ := t_broken S2
    refine ⟨M3, ?_, ?_, Fz_tr F1 (Fz_tr F2 F3)⟩
    · simp only [ff_X3_cutFrom, c_r h hi, s_left h hi, g_t3 h, g_t4 h, e1, mm_u2, r1, r2, c_r S1 hi, r3, e2, c_t S2, e3, Option.bind_some]
      simp [zz_bz0]
    · unfold ph pc
      simp only [hg, Bool.false_eq_true, if_false]
      rw [upd_n (by omega), upd_n (by omega), upd_n (by omega), upd_n (by omega), upd_n (by omega), upd_n (by omega)] at S3
      exact S3
-- sums
theorem t_sumH (h : St M z k) : ff_X3_tesseraeAtHand M (z + 4) = some (su (fun s => k (308 + s)) 100) := by
  simp only [ff_X3_tesseraeAtHand, g_t1 h, l_h h, Option.bind_some]
  have := it_for (body := mm_u2 (ff_X3_tesseraeAtHand_l13 M (z + 6) 100)) (fun t => (su (fun s => k (308 + s)) t, nI t)) 100 (su (fun s => k (308 + s)) 100, nI 100) (by
    intro t ht
    have et := zz_nI t (by omega)
    show ff_X3_tesseraeAtHand_l13 M (z + 6) 100 _ _ = _
    simp only [ff_X3_tesseraeAtHand_l13]
    rw [if_neg (by rw [zz_le, z100]; omega), a_h h (by omega) (by omega), Option.bind_some, et, nI_1]
    rfl) (by
    show ff_X3_tesseraeAtHand_l13 M (z + 6) 100 _ _ = _
    simp only [ff_X3_tesseraeAtHand_l13]
    rw [if_pos (by decide)]) mm_fu (mm_fu_gt (by omega))
  rw [show (su (fun s => k (308 + s)) 0, nI 0) = ((0 : Int32), (0 : Int32)) from rfl] at this
  rw [this]
  rfl
theorem t_sumL (h : St M z k) : ff_X3_lengthOfStrips M (z + 4) = some (su (fun i => k (408 + 11 * i)) 10) := by
  simp only [ff_X3_lengthOfStrips, g_t0 h, l_r h, Option.bind_some]
  have := it_for (body := mm_u2 (ff_X3_lengthOfStrips_l13 M (z + 5) 10)) (fun t => (su (fun i => k (408 + 11 * i)) t, nI t)) 10 (su (fun i => k (408 + 11 * i)) 10, nI 10) (by
    intro t ht
    have et := zz_nI t (by omega)
    show ff_X3_lengthOfStrips_l13 M (z + 5) 10 _ _ = _
    simp only [ff_X3_lengthOfStrips_l13]
    rw [if_neg (by rw [zz_le, z10]; omega), a_r h (by omega) (by omega), Option.bind_some, et, nI_1]
    simp only [Int.toNat_natCast]
    rw [g_r2 h ht]
    rfl) (by
    show ff_X3_lengthOfStrips_l13 M (z + 5) 10 _ _ = _
    simp only [ff_X3_lengthOfStrips_l13]
    rw [if_pos (by decide)]) mm_fu (mm_fu_gt (by omega))
  rw [show (su (fun i => k (408 + 11 * i)) 0, nI 0) = ((0 : Int32), (0 : Int32)) from rfl] at this
  rw [this]
  rfl
theorem t_sumS (h : St M z k) : ff_X3_leftOfStrips M (z + 4) = some (su (fun i => k (408 + 11 * i) - k (410 + 11 * i)) 10) := by
  simp only [ff_X3_leftOfStrips, g_t0 h, l_r h, Option.bind_some]
  have := it_for (body := mm_u2 (ff_X3_leftOfStrips_l13 M (z + 5) 10)) (fun t => (su (fun i => k (408 + 11 * i) - k (410 + 11 * i)) t, nI t)) 10 (su (fun i => k (408 + 11 * i) - k (410 + 11 * i)) 10, nI 10) (by
    intro t ht
    have et := zz_nI t (by omega)
    show ff_X3_leftOfStrips_l13 M (z + 5) 10 _ _ = _
    simp only [ff_X3_leftOfStrips_l13]
    rw [if_neg (by rw [zz_le, z10]; omega), a_r h (by omega) (by omega), Option.bind_some, et, nI_1]
    simp only [Int.toNat_natCast]
    rw [c_r h ht, Option.bind_some, s_left h ht]
    rfl) (by
    show ff_X3_leftOfStrips_l13 M (z + 5) 10 _ _ = _
    simp only [ff_X3_leftOfStrips_l13]
    rw [if_pos (by decide)]) mm_fu (mm_fu_gt (by omega))
  rw [show (su (fun i => k (408 + 11 * i) - k (410 + 11 * i)) 0, nI 0) = ((0 : Int32), (0 : Int32)) from rfl] at this
  rw [this]
  rfl
/-- good tesserae of a shade: at hand and in the strips -/
def rdy (k : Nat → Int32) (s : Int32) (n : Nat) : Int32 := su (fun i => if k (409 + 11 * i) = s then nI (ga k i) else 0) n
theorem t_ready (h : St M z k) (hr : Rs k) {a : Int32} (h0 : 0 ≤ a.toInt) (h1 : a.toInt ≤ 99) : ff_X3_readyOf M (z + 4) a = some (k (308 + a.toInt.toNat) + rdy k a 10) := by
  simp only [ff_X3_readyOf, c_t h, t_hand h h0 h1, g_t0 h, l_r h, Option.bind_some]
  have := it_for (body := mm_u2 (ff_X3_readyOf_l18 M (z + 4) a (z + 5) 10)) (fun t => (k (308 + a.toInt.toNat) + rdy k a t, nI t)) 10 (k (308 + a.toInt.toNat) + rdy k a 10, nI 10) (by
    intro t ht
    have et := zz_nI t (by omega)
    show ff_X3_readyOf_l18 M (z + 4) a (z + 5) 10 _ _ = _
    simp only [ff_X3_readyOf_l18, ff_X3_readyOf_j56]
    rw [if_neg (by rw [zz_le, z10]; omega), a_r h (by omega) (by omega), Option.bind_some, et, nI_1]
    simp only [Int.toNat_natCast]
    rw [g_r3 h ht, Option.bind_some]
    have hstep : rdy k a (t + 1) = rdy k a t + (if k (409 + 11 * t) = a then nI (ga k t) else 0) := rfl
    rw [hstep]
    by_cases hc : k (409 + 11 * t) = a
    · rw [if_pos hc, if_pos hc, g_t3 h, Option.bind_some, g_t4 h, Option.bind_some, c_r h ht, Option.bind_some, s_ga h hr ht, Option.bind_some, Int32.add_assoc]
    · rw [if_neg hc, if_neg hc, Int32.add_zero]) (by
    show ff_X3_readyOf_l18 M (z + 4) a (z + 5) 10 _ _ = _
    simp only [ff_X3_readyOf_l18]
    rw [if_pos (by decide)]) mm_fu (mm_fu_gt (by omega))
  rw [show (k (308 + a.toInt.toNat) + rdy k a 0, nI 0) = (k (308 + a.toInt.toNat) + 0, (0 : Int32)) from rfl, Int32.add_zero] at this
  rw [this]
  rfl
end SW
