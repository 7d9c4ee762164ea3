/-! the State on its page -/
def lx (k : Nat → Int32) (x y : Int32) : Int32 := k (164 + (12 * y.toInt + x.toInt).toNat)
def df (k : Nat → Int32) (x y : Int32) : Int32 := if lx k x y = -1 then 0 else mm_ab (wn k x y - lx k x y)
/-- shades that are wanted or laid -/
def Rl (k : Nat → Int32) : Prop := (∀ j, j < 144 → -1 ≤ (k (164 + j)).toInt ∧ (k (164 + j)).toInt ≤ 99) ∧ (∀ x y : Nat, x < 12 → y < 12 → ¬ ((x : Int) < (k 0).toInt ∧ (y : Int) < (k 1).toInt) → k (164 + (12 * y + x)) = -1) ∧ (∀ j, j < 144 → 0 ≤ (k (20 + j)).toInt ∧ (k (20 + j)).toInt ≤ 99) ∧ ∀ j : Nat, (j : Int) < (k 4).toInt → 0 ≤ (k (12 + j)).toInt ∧ (k (12 + j)).toInt ≤ 99
def Rh (n : Int) (k : Nat → Int32) : Prop := ∀ s, s < 100 → 0 ≤ (k (308 + s)).toInt ∧ (k (308 + s)).toInt ≤ n
theorem sI_r {w h l y n : Int} (hw : 3 ≤ w) (hh : 3 ≤ h) (hl : 1 ≤ l) (h0 : 0 ≤ n) (h1 : n < 2 * (w + h - 2)) : 0 ≤ sI w h l y n ∧ sI w h l y n < l := by
  have := sJ_r hw hh h0 h1
  unfold sI
  split
  · exact emod_r (by omega)
  · split
    · exact emod_r (by omega)
    · split
      · omega
      · exact emod_r (by omega)
theorem bw_r {k : Nat → Int32} (hp : Rp k) (hl : Rl k) {n : Int} (h0 : 0 ≤ n) (h1 : n < 2 * ((k 0).toInt + (k 1).toInt - 2)) : 0 ≤ (bw k n).toInt ∧ (bw k n).toInt ≤ 99 := by
  unfold Rp at hp
  have := sI_r (w := (k 0).toInt) (h := (k 1).toInt) (l := (k 4).toInt) (y := (k 5).toInt) (n := n) (by omega) (by omega) (by omega) h0 h1
  exact hl.2.2.2 (sI (k 0).toInt (k 1).toInt (k 4).toInt (k 5).toInt n).toNat (by omega)
theorem wn_r {k : Nat → Int32} (hp : Rp k) (hl : Rl k) {x y : Int32} (hi : ins k x y) : 0 ≤ (wn k x y).toInt ∧ (wn k x y).toInt ≤ 99 := by
  unfold ins at hi
  have hp' := hp
  unfold Rp at hp'
  unfold wn
  split
  · have a := bn_r (w := (k 0).toInt) (h := (k 1).toInt) (x := x.toInt) (y := y.toInt) (by omega) (by omega) (by omega) (by omega) (by omega) (by omega)
    have b := bn_r2 (w := (k 0).toInt) (h := (k 1).toInt) (x := x.toInt) (y := y.toInt) (by omega) (by omega) (by omega) (by omega) (by omega) (by omega)
    exact bw_r hp hl (by omega) (by omega)
  · exact hl.2.2.1 _ (by omega)
theorem lx_r {k : Nat → Int32} (hp : Rp k) (hl : Rl k) {x y : Int32} (hi : ins k x y) : -1 ≤ (lx k x y).toInt ∧ (lx k x y).toInt ≤ 99 := by
  unfold ins at hi
  unfold Rp at hp
  exact hl.1 _ (by omega)
section ST
variable {M : mm_M} {z : Nat} {k : Nat → Int32}
theorem u_laid (h : St M z k) (hp : Rp k) {x y : Int32} (hi : ins k x y) : ff_X2_laidOrNone M z x y = some (lx k x y) := by
  have e := ix hp hi
  have hi' := hi
  unfold ins at hi'
  unfold Rp at hp
  simp only [ff_X2_laidOrNone, g_s0 h, c_p h, p_has1 h hi, g_s2 h, Option.bind_some]
  rw [if_neg (by decide), a_l h (by omega) (by omega), Option.bind_some, e]
  rfl
theorem u_isL (h : St M z k) (hp : Rp k) {x y : Int32} (hi : ins k x y) : ff_X2_isLaid M z x y = some (if lx k x y = -1 then 0 else 1) := by
  simp only [ff_X2_isLaid, c_s h, u_laid h hp hi, Option.bind_some]
  split <;> rfl
theorem u_diff (h : St M z k) (hp : Rp k) {x y : Int32} (hi : ins k x y) : ff_X2_differenceAt M z x y = some (df k x y) := by
  simp only [ff_X2_differenceAt, c_s h, u_isL h hp hi, Option.bind_some, df]
  by_cases hc : lx k x y = -1
  · rw [if_pos hc, if_pos rfl, if_pos hc]
  · rw [if_neg hc, if_neg (by decide), if_neg hc, g_s0 h, Option.bind_some, c_p h, Option.bind_some, p_want h hp hi, Option.bind_some, u_laid h hp hi, Option.bind_some]
/-- how many cells are laid -/
def lc (k : Nat → Int32) : Int32 := su (fun j => if k (164 + j) = -1 then 0 else 1) 144
theorem u_cells (h : St M z k) : ff_X2_laidCells M z = some (lc k) := by
  simp only [ff_X2_laidCells, g_s2 h, l_l h, Option.bind_some]
  have := it_for (body := mm_u2 (ff_X2_laidCells_l13 M (z + 27) 144)) (fun t => (su (fun j => if k (164 + j) = -1 then 0 else 1) t, nI t)) 144 (lc k, nI 144) (by
    intro t ht
    have et := zz_nI t (by omega)
    show ff_X2_laidCells_l13 M (z + 27) 144 _ _ = _
    simp only [ff_X2_laidCells_l13, ff_X2_laidCells_j34]
    rw [if_neg (by rw [zz_le, z144]; omega), a_l h (by omega) (by omega), Option.bind_some, et, nI_1]
    simp only [Int.toNat_natCast]
    show _ = some (Sum.inl (su (fun j => if k (164 + j) = -1 then 0 else 1) t + (if k (164 + t) = -1 then 0 else 1), nI (t + 1)))
    by_cases hc : k (164 + t) = -1
    · rw [if_pos hc, if_pos hc, Int32.add_zero]
    · rw [if_neg hc, if_neg hc]) (by
    show ff_X2_laidCells_l13 M (z + 27) 144 _ _ = _
    simp only [ff_X2_laidCells_l13]
    rw [if_pos (by decide)]
    rfl) mm_fu (mm_fu_gt (by omega))
  rw [show (su (fun j => if k (164 + j) = -1 then 0 else 1) 0, nI 0) = ((0 : Int32), (0 : Int32)) from rfl] at this
  rw [this]
  rfl
theorem nat_of {a : Int32} (h : 0 ≤ a.toInt) : ∃ n : Nat, a.toInt = n ∧ a = nI n := ⟨a.toInt.toNat, by omega, zz_n h⟩
theorem ins_n {w h : Nat} (ew : (k 0).toInt = w) (eh : (k 1).toInt = h) {x y : Nat} (hx : x < w) (hy : y < h) (hp : Rp k) : ins k (nI x) (nI y) := by
  unfold Rp at hp
  unfold ins
  rw [zz_nI x (by omega), zz_nI y (by omega)]
  omega
theorem u_sumD (h : St M z k) (hp : Rp k) : ff_X2_sumOfDifferences M z = some (su (fun y => su (fun x => df k (nI x) (nI y)) (k 0).toInt.toNat) (k 1).toInt.toNat) := by
  have hp' := hp
  unfold Rp at hp'
  obtain ⟨w, ew, -⟩ := nat_of (a := k 0) (by omega)
  obtain ⟨hh, eh, -⟩ := nat_of (a := k 1) (by omega)
  simp only [ew, eh, Int.toNat_natCast]
  have row : ∀ (y : Nat), y < hh → ∀ a : Int32, mm_it (mm_u2 (ff_X2_sumOfDifferences_l17 M z (nI y))) mm_fu (a, (0 : Int32)) = some (a + su (fun x => df k (nI x) (nI y)) w, nI w) := by
    intro y hy a
    have := it_for (body := mm_u2 (ff_X2_sumOfDifferences_l17 M z (nI y))) (fun t => (a + su (fun x => df k (nI x) (nI y)) t, nI t)) w (a + su (fun x => df k (nI x) (nI y)) w, nI w) (by
      intro t ht
      have et := zz_nI t (by omega)
      show ff_X2_sumOfDifferences_l17 M z (nI y) _ _ = _
      simp only [ff_X2_sumOfDifferences_l17, g_s0 h, g_p4 h, c_s h, Option.bind_some]
      rw [if_neg (by rw [zz_le]; omega), u_diff h hp (ins_n ew eh ht hy hp), Option.bind_some, nI_1, Int32.add_assoc]
      rfl) (by
      have et := zz_nI w (by omega)
      show ff_X2_sumOfDifferences_l17 M z (nI y) _ _ = _
      simp only [ff_X2_sumOfDifferences_l17, g_s0 h, g_p4 h, Option.bind_some]
      rw [if_pos (by rw [zz_le]; omega)]) mm_fu (mm_fu_gt (by omega))
    rw [show (a + su (fun x => df k (nI x) (nI y)) 0, nI 0) = (a + 0, (0 : Int32)) from rfl, Int32.add_zero] at this
    exact this
  have := it_for (body := mm_u2 (ff_X2_sumOfDifferences_l4 M z)) (fun t => (su (fun y => su (fun x => df k (nI x) (nI y)) w) t, nI t)) hh (su (fun y => su (fun x => df k (nI x) (nI y)) w) hh, nI hh) (by
    intro t ht
    have et := zz_nI t (by omega)
    show ff_X2_sumOfDifferences_l4 M z _ _ = _
    simp only [ff_X2_sumOfDifferences_l4, g_s0 h, g_p5 h, Option.bind_some]
    rw [if_neg (by rw [zz_le]; omega), row t ht, Option.bind_some]
    show some (Sum.inl (_, nI t + 1)) = _
    rw [nI_1]
    rfl) (by
    have et := zz_nI hh (by omega)
    show ff_X2_sumOfDifferences_l4 M z _ _ = _
    simp only [ff_X2_sumOfDifferences_l4, g_s0 h, g_p5 h, Option.bind_some]
    rw [if_pos (by rw [zz_le]; omega)]) mm_fu (mm_fu_gt (by omega))
  rw [show (su (fun y => su (fun x => df k (nI x) (nI y)) w) 0, nI 0) = ((0 : Int32), (0 : Int32)) from rfl] at this
  simp only [ff_X2_sumOfDifferences, this, Option.bind_some]
  rfl
/-- the greatest difference: at least 0, at least each, and one of them (or 0) -/
theorem u_maxD (h : St M z k) (hp : Rp k) : ∃ r, ff_X2_greatestDifference M z = some r ∧ 0 ≤ r.toInt ∧ (∀ x y : Nat, (x : Int) < (k 0).toInt → (y : Int) < (k 1).toInt → (df k (nI x) (nI y)).toInt ≤ r.toInt) ∧ (r = 0 ∨ ∃ x y : Nat, (x : Int) < (k 0).toInt ∧ (y : Int) < (k 1).toInt ∧ df k (nI x) (nI y) = r) := by
  have hp' := hp
  unfold Rp at hp'
  obtain ⟨w, ew, -⟩ := nat_of (a := k 0) (by omega)
  obtain ⟨hh, eh, -⟩ := nat_of (a := k 1) (by omega)
  rw [ew, eh]
  have mx1 : ∀ a b : Int32, mm_mx a b = a ∨ mm_mx a b = b := fun a b => by
    unfold mm_mx
    split
    · exact Or.inr rfl
    · exact Or.inl rfl
  have row : ∀ (y : Nat), y < hh → ∀ a : Int32, ∃ b i, mm_it (mm_u2 (ff_X2_greatestDifference_l17 M z (nI y))) mm_fu (a, (0 : Int32)) = some (b, i) ∧ a.toInt ≤ b.toInt ∧ (∀ x : Nat, x < w → (df k (nI x) (nI y)).toInt ≤ b.toInt) ∧ (b = a ∨ ∃ x : Nat, x < w ∧ df k (nI x) (nI y) = b) := by
    intro y hy a
    obtain ⟨⟨b, i⟩, g1, g2⟩ := it_inv (body := mm_u2 (ff_X2_greatestDifference_l17 M z (nI y))) (fun t (st : Int32 × Int32) => st.2.toInt = t ∧ a.toInt ≤ st.1.toInt ∧ (∀ x : Nat, x < t → (df k (nI x) (nI y)).toInt ≤ st.1.toInt) ∧ (st.1 = a ∨ ∃ x : Nat, x < t ∧ df k (nI x) (nI y) = st.1))
      (fun e => a.toInt ≤ e.1.toInt ∧ (∀ x : Nat, x < w → (df k (nI x) (nI y)).toInt ≤ e.1.toInt) ∧ (e.1 = a ∨ ∃ x : Nat, x < w ∧ df k (nI x) (nI y) = e.1)) w (by
        rintro t ⟨x1, x3⟩ ht ⟨hx, ha, hm, hv⟩
        dsimp only at hx ha hm hv
        have hx3 : x3 = nI t := zz_nn hx
        subst hx3
        refine Or.inl ⟨(mm_mx x1 (df k (nI t) (nI y)), nI (t + 1)), ?_, zz_nI _ (by omega), ?_, ?_, ?_⟩
        · show ff_X2_greatestDifference_l17 M z (nI y) x1 (nI t) = _
          simp only [ff_X2_greatestDifference_l17, g_s0 h, g_p4 h, c_s h, Option.bind_some]
          rw [if_neg (by rw [zz_le]; omega), u_diff h hp (ins_n ew eh ht hy hp), Option.bind_some, nI_1]
        · show a.toInt ≤ (mm_mx x1 _).toInt
          rw [zz_mx]; omega
        · intro x hxt
          show _ ≤ (mm_mx x1 _).toInt
          rw [zz_mx]
          rcases Nat.lt_or_ge x t with q | q
          · have := hm x q; omega
          · rw [show x = t by omega]; omega
        · show mm_mx x1 _ = a ∨ ∃ x, x < t + 1 ∧ df k (nI x) (nI y) = mm_mx x1 _
          rcases mx1 x1 (df k (nI t) (nI y)) with q | q
          · rw [q]
            rcases hv with hv | ⟨x, hv1, hv2⟩
            · exact Or.inl hv
            · exact Or.inr ⟨x, by omega, hv2⟩
          · exact Or.inr ⟨t, by omega, q.symm⟩) (by
        rintro ⟨x1, x3⟩ ⟨hx, ha, hm, hv⟩
        dsimp only at hx ha hm hv
        refine ⟨(x1, x3), ?_, ha, hm, hv⟩
        show ff_X2_greatestDifference_l17 M z (nI y) x1 x3 = _
        simp only [ff_X2_greatestDifference_l17, g_s0 h, g_p4 h, Option.bind_some]
        rw [if_pos (by rw [zz_le]; omega)]) (a, (0 : Int32)) mm_fu (mm_fu_gt (by omega)) ⟨rfl, Int.le_refl _, fun x hx => absurd hx (by omega), Or.inl rfl⟩
    exact ⟨b, i, g1, g2⟩
  obtain ⟨⟨r, i⟩, g1, g2, g3, g4⟩ := it_inv (body := mm_u2 (ff_X2_greatestDifference_l4 M z)) (fun t (st : Int32 × Int32) => st.2.toInt = t ∧ 0 ≤ st.1.toInt ∧ (∀ x y : Nat, x < w → y < t → (df k (nI x) (nI y)).toInt ≤ st.1.toInt) ∧ (st.1 = 0 ∨ ∃ x y : Nat, x < w ∧ y < t ∧ df k (nI x) (nI y) = st.1))
    (fun e => 0 ≤ e.1.toInt ∧ (∀ x y : Nat, x < w → y < hh → (df k (nI x) (nI y)).toInt ≤ e.1.toInt) ∧ (e.1 = 0 ∨ ∃ x y : Nat, x < w ∧ y < hh ∧ df k (nI x) (nI y) = e.1)) hh (by
      rintro t ⟨x1, x2⟩ ht ⟨hx, ha, hm, hv⟩
      dsimp only at hx ha hm hv
      have hx2 : x2 = nI t := zz_nn hx
      subst hx2
      obtain ⟨b, i, f1, f2, f3, f4⟩ := row t ht x1
      refine Or.inl ⟨(b, nI (t + 1)), ?_, zz_nI _ (by omega), ?_, ?_, ?_⟩
      · show ff_X2_greatestDifference_l4 M z x1 (nI t) = _
        simp only [ff_X2_greatestDifference_l4, g_s0 h, g_p5 h, Option.bind_some]
        rw [if_neg (by rw [zz_le]; omega), f1, Option.bind_some, ← nI_1]
        rfl
      · show 0 ≤ b.toInt
        omega
      · intro x y hx1 hy1
        show _ ≤ b.toInt
        rcases Nat.lt_or_ge y t with q | q
        · have := hm x y hx1 q; omega
        · rw [show y = t by omega]; exact f3 x hx1
      · show b = 0 ∨ ∃ x y : Nat, x < w ∧ y < t + 1 ∧ df k (nI x) (nI y) = b
        rcases f4 with f4 | ⟨x, f4, f5⟩
        · rw [f4]
          rcases hv with hv | ⟨x, y, hv1, hv2, hv3⟩
          · exact Or.inl hv
          · exact Or.inr ⟨x, y, hv1, by omega, hv3⟩
        · exact Or.inr ⟨x, t, f4, by omega, f5⟩) (by
      rintro ⟨x1, x2⟩ ⟨hx, ha, hm, hv⟩
      dsimp only at hx ha hm hv
      refine ⟨(x1, x2), ?_, ha, hm, hv⟩
      show ff_X2_greatestDifference_l4 M z x1 x2 = _
      simp only [ff_X2_greatestDifference_l4, g_s0 h, g_p5 h, Option.bind_some]
      rw [if_pos (by rw [zz_le]; omega)]) ((0 : Int32), (0 : Int32)) mm_fu (mm_fu_gt (by omega)) ⟨rfl, Int.le_refl _, fun x y _ hy => absurd hy (by omega), Or.inl rfl⟩
  refine ⟨r, ?_, g2, fun x y hx hy => g3 x y (by omega) (by omega), ?_⟩
  · simp only [ff_X2_greatestDifference, g1, Option.bind_some]
    rfl
  · rcases g4 with g4 | ⟨x, y, q1, q2, q3⟩
    · exact Or.inl g4
    · exact Or.inr ⟨x, y, by omega, by omega, q3⟩
theorem u_put (h : St M z k) (hp : Rp k) {x y : Int32} (hi : ins k x y) (v : Int32) : ∃ M', ff_X2_putAt M z x y v = some M' ∧ St M' z (upd k (164 + (12 * y.toInt + x.toInt).toNat) v) ∧ Fz z M M' := by
  have e := ix hp hi
  have hi' := hi
  unfold ins at hi'
  unfold Rp at hp
  obtain ⟨M1, e1, S1, F1⟩ := w_l h (i := y * 12 + x) (by omega) (by omega) v
  rw [e] at S1
  refine ⟨M1, ?_, S1, F1⟩
  simp only [ff_X2_putAt, g_s0 h, c_p h, p_has1 h hi, g_s2 h, e1, Option.bind_some]
  rw [if_neg (by decide)]
theorem u_near (h : St M z k) (hp : Rp k) (hl : Rl k) (hr : Rs k) {x y : Int32} (hi : ins k x y) : ff_X2_shadeForOrNone M z x y = some (Int32.ofInt (nf k (wn k x y).toInt)) ∧ -1 ≤ nf k (wn k x y).toInt ∧ nf k (wn k x y).toInt ≤ 99 ∧ nb (av k) (wn k x y).toInt (nf k (wn k x y).toInt) := by
  have hw := wn_r hp hl hi
  obtain ⟨r, e1, e2, e3⟩ := t_near h hr (w := wn k x y) (by omega)
  rw [nf_eq e3]
  refine ⟨?_, e2.1, e2.2, e3⟩
  simp only [ff_X2_shadeForOrNone, g_s1 h, g_s0 h, c_p h, p_want h hp hi, c_t h, e1, Option.bind_some]
  rw [Int32.ofInt_toInt]
/-- the page when the cell has been laid, if it can be -/
noncomputable def pL (k : Nat → Int32) (x y : Int32) : Nat → Int32 := if lx k x y = -1 then (if nf k (wn k x y).toInt = -1 then k else upd (pB k (Int32.ofInt (nf k (wn k x y).toInt))) (164 + (12 * y.toInt + x.toInt).toNat) (Int32.ofInt (nf k (wn k x y).toInt))) else k
theorem pB_n {s : Int32} {j : Nat} (h1 : j < 308) (h2 : j ≠ 10) (h3 : j ≠ 8) (h4 : j ≠ 9) : pB k s j = k j := by
  unfold pB
  split
  · rw [upd_n (by omega)]
  · exact pcs_n (by omega) (by omega) h2 h3 h4 _
theorem ofI {r : Int} (h1 : -1 ≤ r) (h2 : r ≤ 99) : (Int32.ofInt r).toInt = r := by rw [Int32.toInt_ofInt]; exact zz_bm (by omega) (by omega)
theorem v_lay (h : St M z k) (hp : Rp k) (hl : Rl k) (hr : Rs k) {n : Int} (hh : Rh n k) {x y : Int32} (hi : ins k x y) : ∃ M', ff_X2_layCellIfPossible M z x y = some M' ∧ St M' z (pL k x y) ∧ Fz z M M' := by
  unfold pL
  by_cases hc : lx k x y = -1
  · rw [if_pos hc]
    obtain ⟨f1, f2, f3, f4⟩ := u_near h hp hl hr hi
    have hw := wn_r hp hl hi
    obtain ⟨r, e1, e2, e3⟩ := t_near h hr (w := wn k x y) (by omega)
    have er : nf k (wn k x y).toInt = r.toInt := nf_eq e3
    rw [er] at f2 f3 f4 ⊢
    rw [Int32.ofInt_toInt]
    by_cases hn : r.toInt = -1
    · rw [if_pos hn]
      refine ⟨M, ?_, h, Fz_rf⟩
      simp only [ff_X2_layCellIfPossible, ff_X2_shadeForOrNone, c_s h, u_isL h hp hi, g_s1 h, g_s0 h, c_p h, p_want h hp hi, c_t h, e1, Option.bind_some]
      rw [if_pos hc, if_pos rfl, if_pos (by rw [zz_e, zm1]; exact hn)]
    · rw [if_neg hn]
      have hav : av k r.toInt.toNat := by
        rcases f4 with ⟨q1, -⟩ | ⟨s, q1, q2, -⟩
        · exact absurd q1 hn
        · rw [show r.toInt.toNat = s by omega]; exact q2
      have hh0 := (hh r.toInt.toNat (by omega)).1
      obtain ⟨M1, M2, k1, b1, b2, b3, b4, b5⟩ := t_bring h hr (s := r) (by omega) (by omega) hav hh0
      have hp2 : Rp (pB k r) := by
        unfold Rp
        rw [pB_n (by omega) (by omega) (by omega) (by omega), pB_n (by omega) (by omega) (by omega) (by omega), pB_n (by omega) (by omega) (by omega) (by omega), pB_n (by omega) (by omega) (by omega) (by omega)]
        exact hp
      have hi2 : ins (pB k r) x y := by
        unfold ins
        rw [pB_n (by omega) (by omega) (by omega) (by omega), pB_n (by omega) (by omega) (by omega) (by omega)]
        exact hi
      obtain ⟨M3, c1, c2, c3⟩ := u_put b4 hp2 hi2 r
      refine ⟨M3, ?_, c2, Fz_tr b5 c3⟩
      simp only [ff_X2_layCellIfPossible, ff_X2_shadeForOrNone, c_s h, u_isL h hp hi, g_s1 h, g_s0 h, c_p h, p_want h hp hi, c_t h, e1, b1, g_s1 b2, c_t b2, b3, c_s b4, c1, Option.bind_some]
      rw [if_pos hc, if_pos rfl, if_neg (by rw [zz_e, zm1]; exact hn)]
  · rw [if_neg hc]
    refine ⟨M, ?_, h, Fz_rf⟩
    simp only [ff_X2_layCellIfPossible, c_s h, u_isL h hp hi, Option.bind_some]
    rw [if_neg hc, if_neg (by decide)]
end ST
