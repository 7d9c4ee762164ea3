/-! the Plan, on its page -/
theorem z0 : (0 : Int32).toInt = 0 := rfl
theorem z1 : (1 : Int32).toInt = 1 := rfl
theorem z2 : (2 : Int32).toInt = 2 := rfl
theorem z3 : (3 : Int32).toInt = 3 := rfl
theorem z8 : (8 : Int32).toInt = 8 := rfl
theorem z10 : (10 : Int32).toInt = 10 := rfl
theorem z12 : (12 : Int32).toInt = 12 := rfl
theorem z100 : (100 : Int32).toInt = 100 := rfl
theorem z144 : (144 : Int32).toInt = 144 := rfl
theorem zm1 : (-1 : Int32).toInt = -1 := rfl
def Rp (k : Nat → Int32) : Prop := (3 ≤ (k 0).toInt ∧ (k 0).toInt ≤ 12) ∧ (3 ≤ (k 1).toInt ∧ (k 1).toInt ≤ 12) ∧ (1 ≤ (k 4).toInt ∧ (k 4).toInt ≤ 8) ∧ (0 ≤ (k 5).toInt ∧ (k 5).toInt ≤ 2)
def ins (k : Nat → Int32) (x y : Int32) : Prop := 0 ≤ x.toInt ∧ x.toInt < (k 0).toInt ∧ 0 ≤ y.toInt ∧ y.toInt < (k 1).toInt
def bor (k : Nat → Int32) (x y : Int32) : Prop := x.toInt = 0 ∨ x.toInt = (k 0).toInt - 1 ∨ y.toInt = 0 ∨ y.toInt = (k 1).toInt - 1
section PL
variable {M : mm_M} {z : Nat} {k : Nat → Int32}
theorem p_has1 (h : St M z k) {x y : Int32} (hi : ins k x y) : ff_X1_hasCell M (z + 1) x y = some 1 := by
  obtain ⟨a, b, c, d⟩ := hi
  simp only [ff_X1_hasCell, g_p4 h, g_p5 h, Option.bind_some, zz_lt, zz_le, z0]
  rw [if_neg (by omega), if_neg (by omega), if_neg (by omega), if_neg (by omega)]
theorem p_has0 (h : St M z k) {x y : Int32} (hi : ¬ ins k x y) : ff_X1_hasCell M (z + 1) x y = some 0 := by
  unfold ins at hi
  simp only [ff_X1_hasCell, g_p4 h, g_p5 h, Option.bind_some, zz_lt, zz_le, z0]
  repeat' split
  all_goals first | rfl | (exfalso; omega)
theorem p_bor1 (h : St M z k) (hr : Rp k) {x y : Int32} (hb : bor k x y) : ff_X1_isBorder M (z + 1) x y = some 1 := by
  unfold bor at hb
  unfold Rp at hr
  have e1 : (k 0 - 1).toInt = (k 0).toInt - 1 := zz_s (by rw [z1]; omega) (by rw [z1]; omega)
  have e2 : (k 1 - 1).toInt = (k 1).toInt - 1 := zz_s (by rw [z1]; omega) (by rw [z1]; omega)
  simp only [ff_X1_isBorder, ff_X1_isBorder_j28, g_p4 h, g_p5 h, Option.bind_some, zz_e, z0, e1, e2]
  repeat' split
  all_goals first | rfl | (exfalso; omega)
theorem p_bor0 (h : St M z k) (hr : Rp k) {x y : Int32} (hb : ¬ bor k x y) : ff_X1_isBorder M (z + 1) x y = some 0 := by
  unfold bor at hb
  unfold Rp at hr
  have e1 : (k 0 - 1).toInt = (k 0).toInt - 1 := zz_s (by rw [z1]; omega) (by rw [z1]; omega)
  have e2 : (k 1 - 1).toInt = (k 1).toInt - 1 := zz_s (by rw [z1]; omega) (by rw [z1]; omega)
  simp only [ff_X1_isBorder, ff_X1_isBorder_j28, g_p4 h, g_p5 h, Option.bind_some, zz_e, z0, e1, e2]
  repeat' split
  all_goals first | rfl | (exfalso; omega)
def hB (k : Nat → Int32) : Int32 := ((k 0 - 1) + k 1) - 1
theorem hB_i (hr : Rp k) : (hB k).toInt = (k 0).toInt + (k 1).toInt - 2 := by
  unfold Rp at hr
  have e1 : (k 0 - 1).toInt = (k 0).toInt - 1 := zz_s (by rw [z1]; omega) (by rw [z1]; omega)
  have e2 : ((k 0 - 1) + k 1).toInt = (k 0).toInt - 1 + (k 1).toInt := by rw [zz_a (by omega) (by omega), e1]
  unfold hB
  rw [zz_s (by rw [z1]; omega) (by rw [z1]; omega), e2, z1]
  omega
theorem p_half (h : St M z k) : ff_X1_halfOfBorder M (z + 1) = some (hB k) := by
  simp only [ff_X1_halfOfBorder, g_p4 h, g_p5 h, Option.bind_some]
  rfl
theorem p_cells (h : St M z k) : ff_X1_borderCells M (z + 1) = some (2 * hB k) := by
  simp only [ff_X1_borderCells, c_p h, p_half h, Option.bind_some]
theorem hB_2 (hr : Rp k) : (2 * hB k).toInt = 2 * ((k 0).toInt + (k 1).toInt - 2) := by
  have e := hB_i hr
  unfold Rp at hr
  rw [zz_m (by rw [z2]; omega) (by rw [z2]; omega), e, z2]
/-- the number of a cell of the border -/
def bn (w h x y : Int) : Int := if y = 0 then x else if x = w - 1 then x + y else if y = h - 1 then (w - 1) + (h - 1) + (w - 1) - x else 2 * ((w - 1) + (h - 1)) - y
theorem p_num (h : St M z k) (hr : Rp k) {x y : Int32} (hi : ins k x y) : ∃ r, ff_X1_borderNumberAt M (z + 1) x y = some r ∧ r.toInt = bn (k 0).toInt (k 1).toInt x.toInt y.toInt := by
  have eh := hB_i hr
  have eh2 := hB_2 hr
  unfold ins at hi
  unfold Rp at hr
  have e1 : (k 0 - 1).toInt = (k 0).toInt - 1 := zz_s (by rw [z1]; omega) (by rw [z1]; omega)
  have e2 : (k 1 - 1).toInt = (k 1).toInt - 1 := zz_s (by rw [z1]; omega) (by rw [z1]; omega)
  simp only [ff_X1_borderNumberAt, g_p4 h, g_p5 h, c_p h, p_half h, Option.bind_some, zz_e, z0, e1, e2]
  unfold bn
  split
  · exact ⟨x, rfl, rfl⟩
  · split
    · exact ⟨_, rfl, zz_a (by omega) (by omega)⟩
    · split
      · refine ⟨_, rfl, ?_⟩
        have a1 : (hB k + k 0).toInt = (hB k).toInt + (k 0).toInt := zz_a (by omega) (by omega)
        have a2 : (hB k + k 0 - 1).toInt = (hB k + k 0).toInt - 1 := zz_s (by rw [z1]; omega) (by rw [z1]; omega)
        rw [zz_s (by omega) (by omega)]
        omega
      · refine ⟨_, rfl, ?_⟩
        rw [zz_s (by omega) (by omega)]
        omega
def sJ (w h n : Int) : Int := if n < w - 1 then n else if n < w + h - 2 then n - (w - 1) else if n < 2 * (w - 1) + (h - 1) then n - (w + h - 2) else n - (2 * (w - 1) + (h - 1))
def sN (w h n : Int) : Int := if n < w - 1 ∨ (w + h - 2 ≤ n ∧ n < 2 * (w - 1) + (h - 1)) then w - 1 else h - 1
def sI (w h l y n : Int) : Int := if y = 0 then n % l else if y = 1 then (min (sJ w h n) (sN w h n - sJ w h n)) % l else if sN w h n - sN w h n % l ≤ sJ w h n then 0 else sJ w h n % l
/-- what the cell n of the border wants -/
def bw (k : Nat → Int32) (n : Int) : Int32 := k (12 + (sI (k 0).toInt (k 1).toInt (k 4).toInt (k 5).toInt n).toNat)
theorem emod_r {a b : Int} (hb : 0 < b) : 0 ≤ a % b ∧ a % b < b := ⟨Int.emod_nonneg a (by omega), Int.emod_lt_of_pos a hb⟩
theorem p_pat (h : St M z k) (hr : Rp k) {n : Int32} (hn : 0 ≤ n.toInt) : ff_X1_patternShade M (z + 1) n = some (k (12 + (n.toInt % (k 4).toInt).toNat)) := by
  unfold Rp at hr
  have hm := emod_r (a := n.toInt) (b := (k 4).toInt) (by omega)
  have er : (n - n / k 4 * k 4).toInt = n.toInt % (k 4).toInt := zz_rem hn (by omega)
  simp only [ff_X1_patternShade, g_p2 h, g_p1 h, l_p h, Option.bind_some]
  rw [if_neg (by rw [zz_lt, z0]; omega), if_pos (by rw [zz_lt, z0]; omega), zz_rm (by omega), Option.bind_some, if_neg (by rw [zz_le, z8]; omega), a_p h (by omega) (by omega), Option.bind_some, er]
theorem sJ_r {w h n : Int} (hw : 3 ≤ w) (hh : 3 ≤ h) (h0 : 0 ≤ n) (h1 : n < 2 * (w + h - 2)) : 0 ≤ sJ w h n ∧ sJ w h n < sN w h n := by
  unfold sJ sN
  repeat' split
  all_goals omega
theorem p_wb (h : St M z k) (hr : Rp k) {n : Int32} (h0 : 0 ≤ n.toInt) (h1 : n.toInt < 2 * ((k 0).toInt + (k 1).toInt - 2)) : ff_X1_wantedInBorder M (z + 1) n = some (bw k n.toInt) := by
  have hr' := hr
  have eh := hB_i hr
  unfold Rp at hr
  have e1 : (k 0 - 1).toInt = (k 0).toInt - 1 := zz_s (by rw [z1]; omega) (by rw [z1]; omega)
  have e2 : (k 1 - 1).toInt = (k 1).toInt - 1 := zz_s (by rw [z1]; omega) (by rw [z1]; omega)
  have hj := sJ_r (w := (k 0).toInt) (h := (k 1).toInt) (n := n.toInt) (by omega) (by omega) h0 h1
  -- what follows the side's cells and the place in it
  have key : ∀ (a b : Int32), a.toInt = sN (k 0).toInt (k 1).toInt n.toInt → b.toInt = sJ (k 0).toInt (k 1).toInt n.toInt → ff_X1_wantedInBorder_j72 M (z + 1) n a b = some (bw k n.toInt) := by
    intro a b ea eb
    have hN : sN (k 0).toInt (k 1).toInt n.toInt ≤ 11 := by
      unfold sN; split <;> omega
    unfold bw sI
    simp only [ff_X1_wantedInBorder_j72, ff_X1_wantedInBorder_j137, g_p3 h, c_p h, Option.bind_some]
    by_cases w1 : (k 5).toInt = 1
    · rw [if_pos (by rw [zz_e, z1]; exact w1), if_neg (by omega), if_pos w1]
      have es : (a - b).toInt = a.toInt - b.toInt := zz_s (by omega) (by omega)
      have em : (mm_mn b (a - b)).toInt = min (sJ (k 0).toInt (k 1).toInt n.toInt) (sN (k 0).toInt (k 1).toInt n.toInt - sJ (k 0).toInt (k 1).toInt n.toInt) := by rw [zz_mn, es, ea, eb]
      rw [p_pat h hr' (by rw [em]; omega), Option.bind_some, em]
    · by_cases w2 : (k 5).toInt = 2
      · rw [if_neg (by rw [zz_e, z1]; omega), if_pos (by rw [zz_e, z2]; exact w2), if_neg (by omega), if_neg (by omega)]
        have hm := emod_r (a := sN (k 0).toInt (k 1).toInt n.toInt) (b := (k 4).toInt) (by omega)
        have er : (a - a / k 4 * k 4).toInt = a.toInt % (k 4).toInt := zz_rem (by omega) (by omega)
        rw [ea] at er
        have ec : (a - (a - a / k 4 * k 4)).toInt = sN (k 0).toInt (k 1).toInt n.toInt - sN (k 0).toInt (k 1).toInt n.toInt % (k 4).toInt := by
          rw [zz_s (by omega) (by omega), er, ea]
        simp only [ff_X1_cellsOfWholePatterns, g_p2 h, Option.bind_some]
        rw [if_neg (by rw [zz_le, z0]; omega), zz_rm (by omega), Option.bind_some, Option.bind_some]
        by_cases hc : sN (k 0).toInt (k 1).toInt n.toInt - sN (k 0).toInt (k 1).toInt n.toInt % (k 4).toInt ≤ sJ (k 0).toInt (k 1).toInt n.toInt
        · rw [if_pos (by rw [zz_le, ec, eb]; exact hc), if_pos hc, p_pat h hr' (by rw [z0]; omega), Option.bind_some, z0]
          simp
        · rw [if_neg (by rw [zz_le, ec, eb]; exact hc), if_neg hc, p_pat h hr' (by omega), Option.bind_some, eb]
      · rw [if_neg (by rw [zz_e, z1]; omega), if_neg (by rw [zz_e, z2]; omega), if_pos (by omega), p_pat h hr' h0, Option.bind_some]
  -- the half, the side
  have k2 : ∀ b : Int32, (b.toInt = if n.toInt < (k 0).toInt + (k 1).toInt - 2 then n.toInt else n.toInt - ((k 0).toInt + (k 1).toInt - 2)) → ff_X1_wantedInBorder_j18 M (z + 1) n b = some (bw k n.toInt) := by
    intro b eb
    simp only [ff_X1_wantedInBorder_j18, ff_X1_wantedInBorder_j34, ff_X1_wantedInBorder_j54, g_p4 h, g_p5 h, Option.bind_some]
    by_cases hc : (k 0 - 1) ≤ b
    · rw [if_pos hc, if_pos trivial, if_pos trivial]
      rw [zz_le, e1] at hc
      refine key _ _ ?_ ?_
      · rw [e2]; unfold sN; split at eb <;> split <;> omega
      · rw [zz_s (by omega) (by omega), e1]; unfold sJ; split at eb <;> (repeat' split) <;> omega
    · rw [if_neg hc, if_neg (by decide), if_neg (by decide)]
      rw [zz_le, e1] at hc
      refine key _ _ ?_ ?_
      · rw [e1]; unfold sN; split at eb <;> split <;> omega
      · unfold sJ; split at eb <;> (repeat' split) <;> omega
  simp only [ff_X1_wantedInBorder, c_p h, p_half h, Option.bind_some]
  by_cases hc : hB k ≤ n
  · rw [if_pos hc]
    rw [zz_le, eh] at hc
    refine k2 _ ?_
    rw [if_neg (by omega), zz_s (by omega) (by omega), eh]
  · rw [if_neg hc]
    rw [zz_le, eh] at hc
    exact k2 _ (by rw [if_pos (by omega)])
/-- what a cell of the floor wants -/
def wn (k : Nat → Int32) (x y : Int32) : Int32 := if x.toInt = 0 ∨ x.toInt = (k 0).toInt - 1 ∨ y.toInt = 0 ∨ y.toInt = (k 1).toInt - 1 then bw k (bn (k 0).toInt (k 1).toInt x.toInt y.toInt) else k (20 + (12 * y.toInt + x.toInt).toNat)
theorem bn_r {w h x y : Int} (hw : 3 ≤ w) (hh : 3 ≤ h) (h0 : 0 ≤ x) (h1 : x < w) (h2 : 0 ≤ y) (h3 : y < h) : 0 ≤ bn w h x y ∧ bn w h x y < 2 * (w + h - 2) + 1 := by
  unfold bn
  repeat' split
  all_goals omega
theorem bn_r2 {w h x y : Int} (hw : 3 ≤ w) (hh : 3 ≤ h) (h0 : 0 ≤ x) (h1 : x < w) (h2 : 0 ≤ y) (h3 : y < h) : bn w h x y < 2 * (w + h - 2) := by
  unfold bn
  repeat' split
  all_goals omega
theorem ix (hr : Rp k) {x y : Int32} (hi : ins k x y) : (y * 12 + x).toInt = 12 * y.toInt + x.toInt := by
  unfold Rp at hr
  unfold ins at hi
  have e1 : (y * 12).toInt = y.toInt * 12 := by rw [zz_m (by rw [z12]; omega) (by rw [z12]; omega), z12]
  rw [zz_a (by omega) (by omega), e1]
  omega
theorem p_want (h : St M z k) (hr : Rp k) {x y : Int32} (hi : ins k x y) : ff_X1_wantedAt M (z + 1) x y = some (wn k x y) := by
  have hi' := hi
  unfold ins at hi'
  have hr' := hr
  unfold Rp at hr'
  simp only [ff_X1_wantedAt, c_p h, p_has1 h hi, g_p0 h, Option.bind_some]
  rw [if_neg (by decide)]
  unfold wn
  by_cases hb : bor k x y
  · obtain ⟨r, e1, e2⟩ := p_num h hr hi
    have := bn_r (w := (k 0).toInt) (h := (k 1).toInt) (x := x.toInt) (y := y.toInt) (by omega) (by omega) (by omega) (by omega) (by omega) (by omega)
    have := bn_r2 (w := (k 0).toInt) (h := (k 1).toInt) (x := x.toInt) (y := y.toInt) (by omega) (by omega) (by omega) (by omega) (by omega) (by omega)
    rw [p_bor1 h hr hb, Option.bind_some, if_neg (by decide), e1, Option.bind_some, p_wb h hr (by omega) (by omega), Option.bind_some, if_pos (show x.toInt = 0 ∨ x.toInt = (k 0).toInt - 1 ∨ y.toInt = 0 ∨ y.toInt = (k 1).toInt - 1 from hb), e2]
  · rw [p_bor0 h hr hb, Option.bind_some, if_pos rfl, if_neg (show ¬ (x.toInt = 0 ∨ x.toInt = (k 0).toInt - 1 ∨ y.toInt = 0 ∨ y.toInt = (k 1).toInt - 1) from hb)]
    have e := ix hr hi
    rw [a_w h (by omega) (by omega), Option.bind_some, e]
theorem p_want0 (h : St M z k) {x y : Int32} (hi : ¬ ins k x y) : ff_X1_wantedAt M (z + 1) x y = some (-1) := by
  simp only [ff_X1_wantedAt, c_p h, p_has0 h hi, Option.bind_some]
  rw [if_pos trivial]
end PL
