/-! the law's cases: strips, cuts, laying, lifting, what lacks -/
theorem ob {α β : Type} {x : Option α} {v : α} {f : α → Option β} {r : Option β} (h : x = some v) (h2 : f v = r) : Option.bind x f = r := by rw [h]; exact h2
theorem ob2 {α β γ : Type} {x : Option (α × β)} {v : α} {m : β} {f : α → β → Option γ} {r : Option γ} (h : x = some (v, m)) (h2 : f v m = r) : Option.bind x (mm_u2 f) = r := by rw [h]; exact h2
theorem it1 {α : Type} {c : Prop} [Decidable c] {a b r : α} (h : c) (h2 : a = r) : (if c then a else b) = r := by rw [if_pos h]; exact h2
theorem it0 {α : Type} {c : Prop} [Decidable c] {a b r : α} (h : ¬ c) (h2 : b = r) : (if c then a else b) = r := by rw [if_neg h]; exact h2
section CB
variable {n N : Int} {b u tl : Nat} {M : mm_M} {k tx : Nat → Int32} {pg : Nat → Nat → Int32} {L : Nat} {xs : Nat → Int32} {t px py : Int32}
theorem e300i : (300 : Int32).toInt = 300 := rfl
theorem c_strip (hC : Ci M b k u pg tl tx) (hK : KJ N k u pg tl) (ld y : Int32) {how : Int32} (hh : how = 5 ∨ how = 6) : CX N b L xs t px py (ff_L_law_j175 L xs M b t y how px py ld) := by
  have hI := hK.1.1
  have hr := hI.2.2.1
  have h1 := lw_r y (n := 300) (by decide)
  have h2 := lw_r (y >>> ((10 : Int32) &&& 31)) (n := 100) (by decide)
  rw [e300i] at h1
  rw [e100i] at h2
  have l1 := l_low M y (n := 300) (by decide)
  have l2 := l_low M (y >>> ((10 : Int32) &&& 31)) (n := 100) (by decide)
  have eL : (20 + lw y 300).toInt = 20 + (lw y 300).toInt := by rw [zz_a (by rw [e20i]; omega) (by rw [e20i]; omega), e20i]
  obtain ⟨i, i1, i2⟩ := nat_of (a := k 6) hr.2.2.1.1
  have h6 := hr.2.2.1
  -- the two ways in
  have start : ∀ X M1 r, ff_X6_strip M b (20 + lw y 300) (lw (y >>> ((10 : Int32) &&& 31)) 100) = some (r, M1) → (if k 6 = 10 then ff_L_law_j667 L xs M1 b t px py (20 + lw y 300) r (-3) r else ff_L_law_j667 L xs M1 b t px py (20 + lw y 300) r (k 6) r) = X → ff_L_law_j175 L xs M b t y how px py ld = X := by
    intro X M1 r f1 hX
    rcases hh with rfl | rfl
    · simp (decide := true) only [ff_L_law_j175, l1, l2, i_c hC, r_c9 hC, f1, mm_u2, Option.bind_some, if_true, if_false]
      exact hX
    · simp (decide := true) only [ff_L_law_j175, l1, l2, i_c hC, r_c9 hC, f1, mm_u2, Option.bind_some, if_true, if_false]
      exact hX
  by_cases hi : i < 10
  · obtain ⟨M1, f1, C1⟩ := w_strip hC hK.2.1 hi i2 (L := 20 + lw y 300) (s := lw (y >>> ((10 : Int32) &&& 31)) 100) (by omega) (by omega)
    have P1 := JP_strip hK.1 hi i2 (L := 20 + lw y 300) (s := lw (y >>> ((10 : Int32) &&& 31)) 100) (by omega) (by omega)
    have K1 := KJ_keep hK (Int.le_refl N) P1
    have v := pAs_v (k := k) (i := i) (L := 20 + lw y 300) (s := lw (y >>> ((10 : Int32) &&& 31)) 100)
    have e6' : (pAs k i (20 + lw y 300) (lw (y >>> ((10 : Int32) &&& 31)) 100) 6).toInt = i + 1 := by rw [v.2.2.2.2, zz_a (by rw [z1]; omega) (by rw [z1]; omega), z1, i1]
    obtain ⟨s0, -, s2, -, s4, s5, -⟩ := r_sx C1 P1.1.2.2.1 (i := i) (by omega)
    obtain ⟨g1, g2⟩ := ga_ta v.2.2.2.1
    rw [g1] at s5
    rw [v.1, v.2.2.1] at s2
    have e2 : (20 + lw y 300) - 0 = 20 + lw y 300 := Int32.sub_zero _
    rw [e2] at s2
    have edv : mm_dv (20 + lw y 300) 2 = some ((20 + lw y 300) / 2) := zz_dv (by decide)
    have ediv : ((20 + lw y 300) / 2).toInt = (20 + (lw y 300).toInt) / 2 := by rw [zz_div (by omega) (by decide), eL, z2]
    obtain ⟨M2, f2, C2⟩ := w_flaw C1 K1.2.1 P1.1.2.2.1 (i := i) (by omega) (v := (20 + lw y 300) / 2) (by rw [v.1, v.2.2.1, ediv, eL, z0]; omega) (g2 _ _) (by rw [v.2.2.2.1, z0]; omega)
    have P2 := JP_flaw P1 hi (by rw [v.2.2.2.1, z0]; omega) (by rw [v.2.2.2.1, z0]; omega) (v := (20 + lw y 300) / 2)
    rw [v.2.2.2.1, Int32.zero_add] at f2
    refine ⟨M2, _, _, _, tl, tx, start _ M1 _ f1 ?_, C2, KJ_keep K1 (by omega) (JP_mono P2 (by omega))⟩
    have n10 : ¬ k 6 = 10 := by rw [zz_e, z10]; omega
    have n0 : ¬ nI i < 0 := by rw [zz_lt, z0, zz_nI i (by omega)]; omega
    simp (decide := true) only [if_neg n10, ff_L_law_j667, ← i2, ff_L_law_j720, Option.bind_some, if_true, if_false]
    rw [if_neg (by rw [i2]; exact n0)]
    rw [i2]
    simp (decide := true) only [i_c C1, s2, s4, s5, edv, f2, mm_u2, Option.bind_some, if_true, if_false]
  · have f1 := w_stripL hC (by omega : (k 6).toInt = 10) (L := 20 + lw y 300) (s := lw (y >>> ((10 : Int32) &&& 31)) 100) (by omega) (by omega)
    refine CX_0 hC hK (start _ M _ f1 ?_)
    have y10 : k 6 = 10 := by rw [zz_e, z10]; omega
    simp (decide := true) only [if_pos y10, ff_L_law_j667, ff_L_law_j720, Option.bind_some, if_true, if_false]
theorem c_lays (hC : Ci M b k u pg tl tx) (hK : KJ N k u pg tl) (hi : ins k px py) (y : Int32) {how : Int32} (hh : ¬ (12 : Int32) ≤ how) : CX N b L xs t px py (ff_L_law_j919 L xs M b t y how px py) := by
  obtain ⟨M', k', u', pg', e, C', K'⟩ := l_lays hC hK hi
  refine ⟨M', k', u', pg', tl, tx, ?_, C', KJ_mono K' (by omega)⟩
  simp (decide := true) only [ff_L_law_j919, if_neg hh, e, mm_u2, Option.bind_some, if_true, if_false]
theorem nI_nn {m : Nat} (h : m < 1000) : ¬ nI m < 0 := by rw [zz_lt, z0, zz_nI m (by omega)]; omega
theorem c_cut (hC : Ci M b k u pg tl tx) (hK : KJ N k u pg tl) (hi : ins k px py) (ld y : Int32) : CX N b L xs t px py (ff_L_law_j175 L xs M b t y 7 px py ld) := by
  have hI := hK.1.1
  have hr := hI.2.2.1
  have h6 := hr.2.2.1
  by_cases h60 : k 6 ≤ 0
  · obtain ⟨M', k', u', pg', tl', tx', e, C', K'⟩ := c_lays (N := N) (L := L) (xs := xs) (t := t) hC hK hi y (how := 7) (by decide)
    refine ⟨M', k', u', pg', tl', tx', ?_, C', K'⟩
    rw [← e]
    unfold ff_L_law_j175
    exact it0 (by decide) (it0 (by decide) (it0 (by decide) (it0 (by decide) (it0 (by decide) (it1 (by decide) (it1 rfl (ob (i_c hC) (ob (r_c9 hC) (it1 h60 rfl)))))))))
  · have h6p : 0 < (k 6).toInt := by rw [zz_le, z0] at h60; omega
    have h1 := lw_r y h6p
    have l1 := l_low M y h6p
    obtain ⟨i, i1, i2⟩ := nat_of (a := lw y (k 6)) h1.1
    rw [i2] at l1
    have hi10 : i < 10 := by omega
    have hik : (i : Int) < (k 6).toInt := by omega
    have hs := hr.2.2.2 i hi10
    obtain ⟨-, s1, s2, -, s4, s5, -⟩ := r_sx hC hr (i := i) hik
    have hta := ta_le hr hi10
    have hga := ga_le hr hi10
    have rd := r_ready hC hr (x := k (409 + 11 * i)) hs.2.1
    have rdi := rdI_i hr hI.2.2.2 (x := k (409 + 11 * i)) hs.2.1
    by_cases hc : 0 < ta k i
    · obtain ⟨M1, f1, C1⟩ := w_cut hC hK.2.1 hr hik hc
      have P1 := JP_cut hK.1 hi10 hc
      have K1 := KJ_keep hK (show N ≤ N + 1 by omega) (JP_mono P1 (show N ≤ N + 1 by omega))
      have w : ∀ j, j < 308 ∨ 408 ≤ j → ph k i j = pc k i j := fun j hj => by
        unfold ph
        split
        · rw [upd_n (by omega)]
        · rfl
      have w2 : ∀ j, (j < 308 ∨ 408 ≤ j) → j ≠ 410 + 11 * i → j ≠ 412 + 11 * i → j ≠ 10 → j ≠ 8 → j ≠ 9 → ph k i j = k j := fun j hj a b c d e => by rw [w j hj, pc_n a b c d e]
      have hrp : Rs (pc k i) := (pcs_b hr hi10 1 hc).2
      have ph6 : ph k i 6 = k 6 := w2 6 (by omega) (by omega) (by omega) (by omega) (by omega) (by omega)
      have ph2 : ph k i 2 = k 2 := w2 2 (by omega) (by omega) (by omega) (by omega) (by omega) (by omega)
      have ph9 : ph k i (409 + 11 * i) = k (409 + 11 * i) := w2 _ (by omega) (by omega) (by omega) (by omega) (by omega) (by omega)
      have ph8 : ph k i (408 + 11 * i) = k (408 + 11 * i) := w2 _ (by omega) (by omega) (by omega) (by omega) (by omega) (by omega)
      have eta : ta (ph k i) i = ta (pc k i) i := ta_congr (w _ (by omega)) (w _ (by omega)) (w _ (by omega)) (w _ (by omega))
      have ega : ga (ph k i) i = ga (pc k i) i := ga_congr hrp hi10 (w _ (by omega)) (w _ (by omega)) (fun j _ _ _ => w j (by omega))
      have a1 := (pc_ta hr hi10 hc).1
      have a2 := pc_ga hr hi10 hc
      rw [← eta] at a1
      rw [← ega] at a2
      obtain ⟨-, d1, d2, -, d4, d5, -⟩ := r_sx C1 P1.1.2.2.1 (i := i) (by rw [ph6]; exact hik)
      rw [ph9] at d1
      have rd2 := r_ready C1 P1.1.2.2.1 (x := k (409 + 11 * i)) hs.2.1
      have rdi2 := rdI_i P1.1.2.2.1 P1.1.2.2.2 (x := k (409 + 11 * i)) hs.2.1
      have erd : ph k i (308 + (k (409 + 11 * i)).toInt.toNat) + rdy (ph k i) (k (409 + 11 * i)) 10 = k (308 + (k (409 + 11 * i)).toInt.toNat) + rdy k (k (409 + 11 * i)) 10 := by
        rw [zz_e, rdi2, rdi, rdI_ph hr hI.2.2.2 hi10 hc (by omega)]
      rw [erd] at rd2
      have c15 := r_c15 C1
      rw [ph2] at c15
      have bd := AG_bd hK.1.2.2.1 (Int.le_refl 0) hr hI.2.2.2
      have pv := pc_v hr hi10 hc ⟨hK.1.2.2.1.2.1, bd.2.2.1⟩ ⟨hK.1.2.2.1.2.2.1, bd.2.2.2.1⟩
      have e10 : (ph k i (410 + 11 * i)).toInt = min ((k (410 + 11 * i)).toInt + ((k 2).toInt + (k 3).toInt)) (k (408 + 11 * i)).toInt := by rw [w _ (by omega)]; exact pv.1
      have r1 := hr.1
      have r2 := hr.2.1
      have pv3 := pv.2.2.1
      have el : (k (408 + 11 * i) - k (410 + 11 * i)).toInt = (k (408 + 11 * i)).toInt - (k (410 + 11 * i)).toInt := zz_s (by omega) (by omega)
      have el2 : (ph k i (408 + 11 * i) - ph k i (410 + 11 * i)).toInt = (k (408 + 11 * i)).toInt - (ph k i (410 + 11 * i)).toInt := by rw [ph8, zz_s (by omega) (by omega)]
      have nleft : ¬ (k (408 + 11 * i) - k (410 + 11 * i)) - k 2 < ph k i (408 + 11 * i) - ph k i (410 + 11 * i) := by
        rw [zz_lt, zz_s (by omega) (by omega), el, el2, e10]
        omega
      have q4 : nI (ta (ph k i) i) = nI (ta k i) - 1 := by
        rw [zz_e, zz_s (by rw [zz_nI _ (by omega), z1]; omega) (by rw [zz_nI _ (by omega), z1]; omega), zz_nI _ (by omega), zz_nI _ (by omega), z1]
        omega
      have q5 : nI (ga (ph k i) i) = nI (ga k i) - (if tg k i 0 then 1 else 0) := by
        have e : (if tg k i 0 then (1 : Int32) else 0).toInt = if tg k i 0 then 1 else 0 := by split <;> rfl
        rw [zz_e, zz_s (by rw [zz_nI _ (by omega), e]; split <;> omega) (by rw [zz_nI _ (by omega), e]; split <;> omega), zz_nI _ (by omega), zz_nI _ (by omega), e]
        split
        · rename_i ht
          rw [if_pos ht] at a2
          omega
        · rename_i ht
          rw [if_neg ht] at a2
          omega
      have told : (0 : Int32) ≤ (if tg k i 0 then 1 else 0) := by split <;> decide
      have l3 := l_low M1 (y >>> ((4 : Int32) &&& 31)) (n := 3) (by decide)
      rw [q4] at d4
      rw [q5] at d5
      generalize (if tg k i 0 then (1 : Int32) else 0) = g at *
      by_cases hq : lw (y >>> ((4 : Int32) &&& 31)) 3 = 0
      · obtain ⟨M2, f2, C2⟩ := w_undo C1 (uk_pos u).2 (uk_pos u).1
        rw [pgk_top] at C2
        have K2 := KJ_back K1 (JP_mono hK.1 (show N ≤ N + 1 by omega))
        obtain ⟨-, -, u2, -, -, -, -⟩ := r_sx C2 hr (i := i) hik
        have nn : ¬ nI (uk u - 1) < 0 := nI_nn (by have := uk_pos u; omega)
        refine ⟨M2, k, _, _, tl, tx, ?_, C2, K2⟩
        unfold ff_L_law_j175
        refine it0 (by decide) (it0 (by decide) (it0 (by decide) (it0 (by decide) (it0 (by decide) (it1 (by decide) (it1 rfl ?_))))))
        refine ob (i_c hC) (ob (r_c9 hC) (it0 h60 ?_))
        refine ob (i_c hC) (ob (r_c9 hC) (ob l1 ?_))
        refine ob (i_c hC) (ob s2 (ob (i_c hC) (ob s4 (ob (i_c hC) (ob s5 ?_)))))
        refine ob (i_c hC) (ob s1 (ob (i_c hC) (ob rd (ob (i_c hC) (ob2 f1 ?_)))))
        refine it1 told (ob (i_c C1) (ob d4 (it1 rfl (ob (i_c C1) (ob d5 (it1 rfl ?_))))))
        refine ob (i_c C1) (ob d2 (ob (i_c C1) (ob c15 (it0 nleft ?_))))
        refine ob (i_c C1) (ob d1 (ob (i_c C1) (ob rd2 (it1 rfl (ob l3 ?_)))))
        refine it1 hq (ob (i_c C1) (ob2 f2 (it0 nn (ob (i_c C2) (ob u2 (it1 rfl rfl))))))
      · refine ⟨M1, _, _, _, tl, tx, ?_, C1, K1⟩
        unfold ff_L_law_j175
        refine it0 (by decide) (it0 (by decide) (it0 (by decide) (it0 (by decide) (it0 (by decide) (it1 (by decide) (it1 rfl ?_))))))
        refine ob (i_c hC) (ob (r_c9 hC) (it0 h60 ?_))
        refine ob (i_c hC) (ob (r_c9 hC) (ob l1 ?_))
        refine ob (i_c hC) (ob s2 (ob (i_c hC) (ob s4 (ob (i_c hC) (ob s5 ?_)))))
        refine ob (i_c hC) (ob s1 (ob (i_c hC) (ob rd (ob (i_c hC) (ob2 f1 ?_)))))
        refine it1 told (ob (i_c C1) (ob d4 (it1 rfl (ob (i_c C1) (ob d5 (it1 rfl ?_))))))
        refine ob (i_c C1) (ob d2 (ob (i_c C1) (ob c15 (it0 nleft ?_))))
        refine ob (i_c C1) (ob d1 (ob (i_c C1) (ob rd2 (it1 rfl (ob l3 ?_)))))
        exact it0 hq rfl
    · have f1 := w_cutS hC hr hik hc
      have e0 : nI (ta k i) = 0 := by rw [show ta k i = 0 by omega]; rfl
      rw [e0] at s4
      refine CX_0 hC hK ?_
      unfold ff_L_law_j175
      refine it0 (by decide) (it0 (by decide) (it0 (by decide) (it0 (by decide) (it0 (by decide) (it1 (by decide) (it1 rfl ?_))))))
      refine ob (i_c hC) (ob (r_c9 hC) (it0 h60 ?_))
      refine ob (i_c hC) (ob (r_c9 hC) (ob l1 ?_))
      refine ob (i_c hC) (ob s2 (ob (i_c hC) (ob s4 (ob (i_c hC) (ob s5 ?_)))))
      refine ob (i_c hC) (ob s1 (ob (i_c hC) (ob rd (ob (i_c hC) (ob2 f1 ?_)))))
      exact it0 (by decide) (it1 rfl (it1 rfl rfl))
theorem c_all (hC : Ci M b k u pg tl tx) (hK : KJ N k u pg tl) (y : Int32) : CX N b L xs t px py (ff_L_law_j919 L xs M b t y 12 px py) := by
  have hI := hK.1.1
  have P1 := JP_pA hK.1
  have hJ := JL_pA (JP_JL hK.1)
  obtain ⟨M1, f1, C1⟩ := w_ifLaid hC hI
  obtain ⟨M2, f2, C2⟩ := w_layAll C1 hK.2.1 hI
  have K2 := KJ_keep hK (show N ≤ N + 1 by omega) (JP_mono P1 (show N ≤ N + 1 by omega))
  have c6 := r_c6 C2
  have c7 := r_c7 C2 P1.1.1
  have b1 : aL k ≤ 144 := aL_b
  have b2 : aL (pA k) ≤ 144 := aL_b
  have b3 : 0 ≤ aL k := aL_n
  have hmono := hJ.2.2.2.1
  have esub : (lc (pA k) - lc k).toInt = aL (pA k) - aL k := by rw [zz_s (by rw [lc_i, lc_i]; omega) (by rw [lc_i, lc_i]; omega), lc_i, lc_i]
  have nn : ¬ lc (pA k) - lc k < 0 := by rw [zz_lt, z0, esub]; omega
  have esum : lc k + (lc (pA k) - lc k) = lc (pA k) := by rw [zz_e, zz_a (by rw [esub, lc_i]; omega) (by rw [esub, lc_i]; omega), esub, lc_i, lc_i]; omega
  have l1 := l_low M2 y (n := 3) (by decide)
  by_cases hq : lw y 3 ≤ 0
  · refine ⟨M2, _, _, _, tl, tx, ?_, C2, K2⟩
    simp (decide := true) only [ff_L_law_j919, ff_L_law_j1025, i_c hC, f1, mm_u2, i_c C1, r_c6 C1, f2, if_neg nn, i_c C2, c6, esum, c7, l1, if_pos hq, Option.bind_some, if_true, if_false]
  · obtain ⟨M3, f3, C3⟩ := w_undo C2 (uk_pos u).2 (uk_pos u).1
    rw [pgk_top] at C3
    have K3 := KJ_back K2 (JP_mono hK.1 (show N ≤ N + 1 by omega))
    have nu : ¬ nI (uk u - 1) < 0 := nI_nn (by have := uk_pos u; omega)
    refine ⟨M3, k, _, _, tl, tx, ?_, C3, K3⟩
    simp (decide := true) only [ff_L_law_j919, ff_L_law_j1025, i_c hC, f1, mm_u2, i_c C1, r_c6 C1, f2, if_neg nn, i_c C2, c6, esum, c7, l1, if_neg hq, f3, if_neg nu, i_c C3, r_c6 C3, Option.bind_some, if_true, if_false]
theorem c_lift (hC : Ci M b k u pg tl tx) (hK : KJ N k u pg tl) (hN : N ≤ 1000) (hi : ins k px py) (y : Int32) {how : Int32} (hh : how = 13 ∨ how = 14) : CX N b L xs t px py (ff_L_law_j919 L xs M b t y how px py) := by
  have hI := hK.1.1
  have hp := hI.1
  have c1 := r_cell1 hC hp hi
  have hlr := lx_r hp hI.2.1 hi
  have start : ∀ X, (if (if lx k px py = -1 then (-4 : Int32) else lx k px py) = -4 then ff_L_law_j1054 L xs M b t px py 0 else ff_L_law_j1054 L xs M b t px py 1) = X → ff_L_law_j919 L xs M b t y how px py = X := by
    intro X hX
    rcases hh with rfl | rfl
    · simp (decide := true) only [ff_L_law_j919, i_c hC, c1, Option.bind_some, if_true, if_false]
      exact hX
    · simp (decide := true) only [ff_L_law_j919, i_c hC, c1, Option.bind_some, if_true, if_false]
      exact hX
  by_cases hl : lx k px py = -1
  · have f1 := w_liftS hC hI hi hl
    refine CX_0 hC hK (start _ ?_)
    simp (decide := true) only [if_pos hl, ff_L_law_j1054, ff_L_law_j1137, i_c hC, r_c12 hC, f1, mm_u2, Option.bind_some, if_true, if_false]
  · have h4 : lx k px py ≠ -4 := by rw [Ne, zz_e, zm4]; omega
    obtain ⟨M1, f1, C1⟩ := w_lift hC hK.2.1 hI hi hl
    have P1 := JP_lift hK.1 hN hi hl
    have erm : mm_rm (k 7 + 1) 3 = some (k 7 + 1 - (k 7 + 1) / 3 * 3) := zz_rm (by decide)
    have hi' := hi
    unfold ins at hi'
    have hp' := hp
    unfold Rp at hp'
    have w0 : pli k px py 0 = k 0 ∧ pli k px py 1 = k 1 ∧ pli k px py 7 = k 7 + 1 ∧ lx (pli k px py) px py = -1 := by
      unfold pli lx
      split
      · exact ⟨by rw [upd_n (by omega), upd_n (by omega), upd_n (by omega), upd_n (by omega)], by rw [upd_n (by omega), upd_n (by omega), upd_n (by omega), upd_n (by omega)], by rw [upd_n (by omega), upd_n (by omega), upd_s], by rw [upd_n (by omega), upd_n (by omega), upd_n (by omega), upd_s]⟩
      · exact ⟨by rw [upd_n (by omega), upd_n (by omega), upd_n (by omega)], by rw [upd_n (by omega), upd_n (by omega), upd_n (by omega)], by rw [upd_n (by omega), upd_s], by rw [upd_n (by omega), upd_n (by omega), upd_s]⟩
    have hi1 : ins (pli k px py) px py := ins_congr w0.1 w0.2.1 hi
    have d1 := r_cell1 C1 P1.1.1 hi1
    rw [if_pos w0.2.2.2] at d1
    have d12 := r_c12 C1
    rw [w0.2.2.1] at d12
    refine ⟨M1, _, _, _, tl, tx, start _ ?_, C1, KJ_keep hK (by omega) P1⟩
    rw [if_neg hl, if_neg h4]
    simp (decide := true) only [ff_L_law_j1054, i_c hC, r_c12 hC, f1, mm_u2, erm, Option.bind_some, if_false]
    by_cases hm : k 7 + 1 - (k 7 + 1) / 3 * 3 = 0
    · simp (decide := true) only [if_pos hm, ff_L_law_j1105, ff_L_law_j1137, i_c C1, d1, d12, Option.bind_some, if_true, if_false]
    · simp (decide := true) only [if_neg hm, ff_L_law_j1105, ff_L_law_j1137, i_c C1, d1, d12, Option.bind_some, if_true, if_false]
theorem c_lack (hC : Ci M b k u pg tl tx) (hK : KJ N k u pg tl) (hi : ins k px py) (y : Int32) : CX N b L xs t px py (ff_L_law_j919 L xs M b t y 15 px py) := by
  have hI := hK.1.1
  have hp := hI.1
  have hr := hI.2.2.1
  have c0 := r_cell0 hC hp hi
  have hw := wn_r hp hI.2.1 hi
  have hlk := r_lacks hC hI hw
  have hsf := r_stripFor hC hI hw
  have elk := lk_i hI hw
  have wb := wt_b hp (wn k px py)
  have rb := rdI_b hr hI.2.2.2 (s := (wn k px py).toInt.toNat) (by omega)
  generalize wn k px py = s at *
  have hn : 0 ≤ (lk k s).toInt ∧ (lk k s).toInt ≤ 144 := by omega
  have r1 := hr.1
  have r2 := hr.2.1
  have nlt : ¬ lk k s < 0 := by rw [zz_lt, z0]; omega
  by_cases h0 : lk k s = 0
  · rw [if_pos h0] at hsf
    rw [h0] at hlk
    refine CX_0 hC hK ?_
    simp (decide := true) only [ff_L_law_j919, ff_L_law_j1182, ff_L_law_j1192, ff_L_law_j1215, i_c hC, c0, hlk, hsf, Option.bind_some, if_true, if_false]
  · rw [if_neg h0] at hsf
    have h0i : 0 < (lk k s).toInt := by rw [zz_e, z0] at h0; omega
    have m1 : (lk k s * k 2).toInt = (lk k s).toInt * (k 2).toInt := by
      have b1 : (lk k s).toInt * (k 2).toInt ≤ 144 * 60 := Int.mul_le_mul (by omega) (by omega) (by omega) (by omega)
      have b2 : 0 ≤ (lk k s).toInt * (k 2).toInt := Int.mul_nonneg (by omega) (by omega)
      exact zz_m (by omega) (by omega)
    have m2 : ((lk k s - 1) * k 3).toInt = ((lk k s).toInt - 1) * (k 3).toInt ∧ 0 ≤ ((lk k s).toInt - 1) * (k 3).toInt ∧ ((lk k s).toInt - 1) * (k 3).toInt ≤ 144 * 5 := by
      have e : (lk k s - 1).toInt = (lk k s).toInt - 1 := by rw [zz_s (by rw [z1]; omega) (by rw [z1]; omega), z1]
      have b1 : ((lk k s).toInt - 1) * (k 3).toInt ≤ 144 * 5 := Int.mul_le_mul (by omega) (by omega) (by omega) (by omega)
      have b2 : 0 ≤ ((lk k s).toInt - 1) * (k 3).toInt := Int.mul_nonneg (by omega) (by omega)
      exact ⟨by rw [zz_m (by rw [e]; omega) (by rw [e]; omega), e], b2, b1⟩
    have b1 : (lk k s).toInt * (k 2).toInt ≤ 144 * 60 := Int.mul_le_mul (by omega) (by omega) (by omega) (by omega)
    have b2 : 0 ≤ (lk k s).toInt * (k 2).toInt := Int.mul_nonneg (by omega) (by omega)
    have m3 : (lk k s * k 2 + (lk k s - 1) * k 3).toInt = (lk k s).toInt * (k 2).toInt + ((lk k s).toInt - 1) * (k 3).toInt := by rw [zz_a (by omega) (by omega), m1, m2.1]
    by_cases h1 : lk k s * k 2 + (lk k s - 1) * k 3 ≤ 1000
    · rw [if_pos h1] at hsf
      rw [zz_le, m3, e1000i] at h1
      have eE : (mm_mx (lk k s * k 2 + (lk k s - 1) * k 3) 20).toInt = max ((lk k s).toInt * (k 2).toInt + ((lk k s).toInt - 1) * (k 3).toInt) 20 := by rw [zz_mx, m3, e20i]
      generalize mm_mx (lk k s * k 2 + (lk k s - 1) * k 3) 20 = E at *
      have nE0 : E ≠ 0 := by rw [Ne, zz_e, z0]; omega
      have nE1 : ¬ (1000 : Int32) < E := by rw [zz_lt, e1000i]; omega
      have nE2 : ¬ E ≤ 0 := by rw [zz_le, z0]; omega
      have nE3 : ¬ E < 20 := by rw [zz_lt, e20i]; omega
      by_cases h10 : (10 : Int32) ≤ k 6
      · refine CX_0 hC hK ?_
        simp (decide := true) only [ff_L_law_j919, ff_L_law_j1182, ff_L_law_j1192, ff_L_law_j1215, i_c hC, c0, hlk, hsf, if_neg nlt, if_neg h0, if_neg nE0, if_neg nE1, if_neg nE2, if_neg nE3, r_c9 hC, if_pos h10, Option.bind_some, if_true, if_false]
      · obtain ⟨i, i1, i2⟩ := nat_of (a := k 6) hr.2.2.1.1
        have hi10 : i < 10 := by rw [zz_le, z10] at h10; omega
        obtain ⟨M1, f1, C1⟩ := w_strip hC hK.2.1 hi10 i2 (L := E) (s := s) (by omega) hw
        have P1 := JP_strip hK.1 hi10 i2 (L := E) (s := s) (by omega) hw
        have K1 := KJ_keep hK (show N ≤ N + 1 by omega) (JP_mono P1 (show N ≤ N + 1 by omega))
        have e0 := lk_strip hI hi10 i2 hw h0i (by omega : (lk k s).toInt * (k 2).toInt + ((lk k s).toInt - 1) * (k 3).toInt ≤ E.toInt) P1.1
        have d1 := r_lacks C1 P1.1 hw
        rw [e0] at d1
        obtain ⟨M2, f2, C2⟩ := w_undo C1 (uk_pos u).2 (uk_pos u).1
        rw [pgk_top] at C2
        have K2 := KJ_back K1 (JP_mono hK.1 (show N ≤ N + 1 by omega))
        have nu : ¬ nI (uk u - 1) < 0 := nI_nn (by have := uk_pos u; omega)
        have ni : ¬ nI i < 0 := nI_nn (by omega)
        have d2 := r_lacks C2 hI hw
        refine ⟨M2, k, _, _, tl, tx, ?_, C2, K2⟩
        simp (decide := true) only [ff_L_law_j919, ff_L_law_j1182, ff_L_law_j1192, ff_L_law_j1215, i_c hC, c0, hlk, hsf, if_neg nlt, if_neg h0, if_neg nE0, if_neg nE1, if_neg nE2, if_neg nE3, r_c9 hC, if_neg h10, f1, mm_u2, if_neg ni, i_c C1, d1, f2, if_neg nu, i_c C2, d2, Option.bind_some, if_true, if_false]
    · rw [if_neg h1] at hsf
      refine CX_0 hC hK ?_
      simp (decide := true) only [ff_L_law_j919, ff_L_law_j1182, ff_L_law_j1192, ff_L_law_j1215, i_c hC, c0, hlk, hsf, if_neg nlt, if_neg h0, Option.bind_some, if_true, if_false]
end CB
