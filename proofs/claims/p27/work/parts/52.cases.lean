/-! the law's cases -/
section CA
variable {n N : Int} {b u tl : Nat} {M : mm_M} {k tx : Nat → Int32} {pg : Nat → Nat → Int32} {L : Nat} {xs : Nat → Int32} {t px py : Int32}
/-- a case comes to the common end, with all that holds -/
def CX (N : Int) (b L : Nat) (xs : Nat → Int32) (t px py : Int32) (X : Option ((Int32 × mm_M) ⊕ ((Int32 × mm_M) ⊕ (Int32 × mm_M)))) : Prop := ∃ M' k' u' pg' tl' tx', X = ff_L_law_j1271 L xs M' b t px py ∧ Ci M' b k' u' pg' tl' tx' ∧ KJ (N + 1) k' u' pg' tl'
theorem CX_0 (hC : Ci M b k u pg tl tx) (hK : KJ N k u pg tl) {X : Option ((Int32 × mm_M) ⊕ ((Int32 × mm_M) ⊕ (Int32 × mm_M)))} (h : X = ff_L_law_j1271 L xs M b t px py) : CX N b L xs t px py X := ⟨M, k, u, pg, tl, tx, h, hC, KJ_mono hK (by omega)⟩
/-- whether a cell is laid -/
def LD (k : Nat → Int32) (ld : Int32) : Prop := (ld = 0 ∧ lc k ≤ 0) ∨ (ld = 1 ∧ ¬ lc k ≤ 0)
theorem lc0 (hl : lc k ≤ 0) (hI : IP 2000 k) : ∀ j, j < 144 → k (164 + j) = -1 := lc_0 hI.2.1 (by rw [zz_le, z0] at hl; exact hl)
theorem c_floor (hC : Ci M b k u pg tl tx) (hK : KJ N k u pg tl) {ld : Int32} (hld : LD k ld) (y : Int32) : CX N b L xs t px py (ff_L_law_j175 L xs M b t y 0 px py ld) := by
  have hI := hK.1.1
  have h1 := lw_r y (n := 5) (by decide)
  have h2 := lw_r (y >>> ((3 : Int32) &&& 31)) (n := 5) (by decide)
  rw [z5] at h1 h2
  have e1 : (3 + lw y 5).toInt = 3 + (lw y 5).toInt := by rw [zz_a (by rw [z3]; omega) (by rw [z3]; omega), z3]
  have e2 : (3 + lw (y >>> ((3 : Int32) &&& 31)) 5).toInt = 3 + (lw (y >>> ((3 : Int32) &&& 31)) 5).toInt := by rw [zz_a (by rw [z3]; omega) (by rw [z3]; omega), z3]
  have l1 := l_low M y (n := 5) (by decide)
  have l2 := l_low M (y >>> ((3 : Int32) &&& 31)) (n := 5) (by decide)
  rcases hld with ⟨rfl, hl⟩ | ⟨rfl, hl⟩
  · obtain ⟨M1, f1, C1⟩ := w_floor hC hK.2.1 (c := 3 + lw y 5) (r := 3 + lw (y >>> ((3 : Int32) &&& 31)) 5) (by omega) (by omega) hl
    have P1 := JP_begin hK.1 (c := 3 + lw y 5) (r := 3 + lw (y >>> ((3 : Int32) &&& 31)) 5) (by omega) (by omega) (lc0 hl hI)
    have b0 : pBe k (3 + lw y 5) (3 + lw (y >>> ((3 : Int32) &&& 31)) 5) 0 = 3 + lw y 5 := by unfold pBe; rw [if_neg (by omega), upd_n (by omega), upd_s]
    have b1 : pBe k (3 + lw y 5) (3 + lw (y >>> ((3 : Int32) &&& 31)) 5) 1 = 3 + lw (y >>> ((3 : Int32) &&& 31)) 5 := by unfold pBe; rw [if_neg (by omega), upd_s]
    have hi1 : ins (pBe k (3 + lw y 5) (3 + lw (y >>> ((3 : Int32) &&& 31)) 5)) 1 1 := by unfold ins; rw [b0, b1, z1]; omega
    have hw : wn (pBe k (3 + lw y 5) (3 + lw (y >>> ((3 : Int32) &&& 31)) 5)) 1 1 = 50 := by
      unfold wn
      rw [b0, b1, z1, if_neg (by omega)]
      unfold pBe
      rw [if_pos (by omega)]
    have c0 := r_c0 C1
    have cw := r_cell0 C1 P1.1.1 hi1
    rw [b0] at c0
    rw [hw] at cw
    refine ⟨M1, _, _, _, tl, tx, ?_, C1, KJ_keep hK (by omega) (JP_mono P1 (by omega))⟩
    simp (decide := true) only [ff_L_law_j175, ff_L_law_j227, ff_L_law_j259, l1, l2, i_c hC, f1, mm_u2, i_c C1, c0, cw, Option.bind_some, if_true, if_false]
  · have f1 := w_floorS hC (c := 3 + lw y 5) (r := 3 + lw (y >>> ((3 : Int32) &&& 31)) 5) (by omega) (by omega) hl
    refine CX_0 hC hK ?_
    simp (decide := true) only [ff_L_law_j175, ff_L_law_j227, ff_L_law_j259, l1, l2, i_c hC, f1, mm_u2, Option.bind_some, if_true, if_false]
theorem c_patt (hC : Ci M b k u pg tl tx) (hK : KJ N k u pg tl) (ld y : Int32) : CX N b L xs t px py (ff_L_law_j175 L xs M b t y 1 px py ld) := by
  obtain ⟨M', k', u', pg', tl', tx', e, C', K'⟩ := l_patterns hC hK y
  refine ⟨M', k', u', pg', tl', tx', ?_, C', KJ_mono K' (by omega)⟩
  simp (decide := true) only [ff_L_law_j175, e, mm_u2, Option.bind_some, if_true, if_false]
theorem c_way (hC : Ci M b k u pg tl tx) (hK : KJ N k u pg tl) {ld : Int32} (hld : LD k ld) (y : Int32) : CX N b L xs t px py (ff_L_law_j175 L xs M b t y 2 px py ld) := by
  have h1 := lw_r y (n := 3) (by decide)
  rw [z3] at h1
  have l1 := fun M => l_low M y (n := 3) (by decide)
  rcases hld with ⟨rfl, hl⟩ | ⟨rfl, hl⟩
  · obtain ⟨M1, f1, C1⟩ := w_way hC hK.2.1 (c := lw y 3) (by omega) hl
    have P1 := JP_way hK.1 (v := lw y 3) (by omega)
    have c4 := r_c4 C1
    rw [upd_s] at c4
    refine ⟨M1, _, _, _, tl, tx, ?_, C1, KJ_keep hK (by omega) (JP_mono P1 (by omega))⟩
    simp (decide := true) only [ff_L_law_j175, ff_L_law_j314, ff_L_law_j338, l1, i_c hC, r_c4 hC, f1, mm_u2, i_c C1, c4, Option.bind_some, if_true, if_false]
  · have f1 := w_wayS hC (c := lw y 3) (by omega) hl
    refine CX_0 hC hK ?_
    simp (decide := true) only [ff_L_law_j175, ff_L_law_j314, ff_L_law_j338, l1, i_c hC, r_c4 hC, f1, mm_u2, Option.bind_some, if_true, if_false]
theorem e8i : (8 : Int32).toInt = 8 := rfl
theorem e30i : (30 : Int32).toInt = 30 := rfl
theorem c_size (hC : Ci M b k u pg tl tx) (hK : KJ N k u pg tl) {ld : Int32} (hld : LD k ld) (y : Int32) : CX N b L xs t px py (ff_L_law_j175 L xs M b t y 3 px py ld) := by
  have h1 := lw_r y (n := 30) (by decide)
  rw [e30i] at h1
  have e1 : (8 + lw y 30).toInt = 8 + (lw y 30).toInt := by rw [zz_a (by rw [e8i]; omega) (by rw [e8i]; omega), e8i]
  have l1 := l_low M y (n := 30) (by decide)
  rcases hld with ⟨rfl, hl⟩ | ⟨rfl, hl⟩
  · obtain ⟨M1, f1, C1⟩ := w_size hC hK.2.1 (v := 8 + lw y 30) (by omega) hl
    have P1 := JP_size hK.1 (v := 8 + lw y 30) (by omega) (lc0 hl hK.1.1)
    have c15 := r_c15 C1
    rw [upd_s] at c15
    have c26 := r_c26 C1
    rw [upd_n (by omega), show pTh k 11 = k 11 + su (fun s => k (308 + s)) 100 * k 2 by unfold pTh; rw [if_neg (by omega), upd_s]] at c26
    refine ⟨M1, _, _, _, tl, tx, ?_, C1, KJ_keep hK (by omega) (JP_mono P1 (by omega))⟩
    simp (decide := true) only [ff_L_law_j175, ff_L_law_j407, ff_L_law_j428, ff_L_law_j452, l1, i_c hC, r_c15 hC, r_c26 hC, r_c22 hC, f1, mm_u2, i_c C1, c15, c26, Option.bind_some, if_true, if_false]
  · have f1 := w_sizeS hC (v := 8 + lw y 30) (by omega) hl
    refine CX_0 hC hK ?_
    simp (decide := true) only [ff_L_law_j175, ff_L_law_j407, ff_L_law_j428, ff_L_law_j452, l1, i_c hC, r_c15 hC, r_c26 hC, r_c22 hC, f1, mm_u2, Option.bind_some, if_true, if_false]
/-- behind a want, perhaps another loss -/
theorem c_w567 (hC : Ci M b k u pg tl tx) (hK : KJ N k u pg tl) (y z : Int32) : CX N b L xs t px py (ff_L_law_j567 L xs M b t y px py z z) := by
  have h1 := lw_r (y >>> ((8 : Int32) &&& 31)) (n := 6) (by decide)
  rw [e6i] at h1
  have l1 := l_low M (y >>> ((7 : Int32) &&& 31)) (n := 2) (by decide)
  have l2 := l_low M (y >>> ((8 : Int32) &&& 31)) (n := 6) (by decide)
  by_cases hq : lw (y >>> ((7 : Int32) &&& 31)) 2 = 0
  · obtain ⟨M1, f1, C1⟩ := w_loss hC hK.2.1 (v := lw (y >>> ((8 : Int32) &&& 31)) 6) (by omega)
    have P1 := JP_loss hK.1 (v := lw (y >>> ((8 : Int32) &&& 31)) 6) (by omega)
    have hge : (0 : Int32) ≤ k 3 := by rw [zz_le, z0]; exact hK.1.1.2.2.1.2.1.1
    refine ⟨M1, _, _, _, tl, tx, ?_, C1, KJ_keep hK (by omega) (JP_mono P1 (by omega))⟩
    simp (decide := true) only [ff_L_law_j567, ff_L_law_j602, l1, l2, if_pos hq, i_c hC, f1, mm_u2, if_pos hge, Option.bind_some, if_true, if_false]
  · refine CX_0 hC hK ?_
    simp (decide := true) only [ff_L_law_j567, ff_L_law_j602, l1, if_neg hq, Option.bind_some, if_true, if_false]
theorem e100i : (100 : Int32).toInt = 100 := rfl
theorem c_want (hC : Ci M b k u pg tl tx) (hK : KJ N k u pg tl) (hi : ins k px py) (ld y : Int32) : CX N b L xs t px py (ff_L_law_j175 L xs M b t y 4 px py ld) := by
  have hI := hK.1.1
  have hp := hI.1
  have h1 := lw_r y (n := 100) (by decide)
  rw [e100i] at h1
  have l1 := l_low M y (n := 100) (by decide)
  have c0 := r_cell0 hC hp hi
  have c1 := r_cell1 hC hp hi
  by_cases hg : ¬ bor k px py ∧ lx k px py = -1
  · obtain ⟨hb, hl⟩ := hg
    rw [if_pos hl] at c1
    have c3 := r_cell3n hC hp hi hb
    obtain ⟨a, c, ea, ec, ha, hc⟩ := ins_nat hi
    have hp' := hp
    unfold Rp at hp'
    obtain ⟨M1, f1, C1⟩ := w_want hC hK.2.1 hp ha hc (by rw [← ea, ← ec]; exact hi) (v := lw y 100) (by omega) (by rw [← ea, ← ec]; exact hb) (by rw [← ea, ← ec]; exact hl)
    have P1 := JP_want hK.1 (x := a) (y := c) (by omega) (by omega) (v := lw y 100) (by omega)
    have hi1 : ins (upd k (20 + (12 * c + a)) (lw y 100)) px py := ins_congr (upd_n (by omega)) (upd_n (by omega)) hi
    have hw : wn (upd k (20 + (12 * c + a)) (lw y 100)) px py = lw y 100 := by
      have ea' : px.toInt = a := by rw [ea, zz_nI a (by omega)]
      have ec' : py.toInt = c := by rw [ec, zz_nI c (by omega)]
      unfold wn
      unfold bor at hb
      rw [upd_n (i := 20 + (12 * c + a)) (j := 0) (by omega), upd_n (i := 20 + (12 * c + a)) (j := 1) (by omega), if_neg hb, ea', ec', show (12 * (c : Int) + (a : Int)).toNat = 12 * c + a by omega, upd_s]
    rw [← ea, ← ec] at f1
    have d0 := r_cell0 C1 P1.1.1 hi1
    rw [hw] at d0
    have K1 := KJ_keep hK (Int.le_refl N) P1
    obtain ⟨M2, k2, u2, pg2, tl2, tx2, g1, g2, g3⟩ := c_w567 (N := N) (L := L) (xs := xs) (t := t) (px := px) (py := py) C1 K1 y (lw y 100)
    refine ⟨M2, k2, u2, pg2, tl2, tx2, ?_, g2, g3⟩
    rw [← g1]
    simp (decide := true) only [ff_L_law_j175, ff_L_law_j510, ff_L_law_j543, l1, i_c hC, c0, c3, c1, f1, mm_u2, i_c C1, d0, Option.bind_some, if_true, if_false]
  · have hb' : bor k px py ∨ lx k px py ≠ -1 := by
      by_cases q : bor k px py
      · exact Or.inl q
      · exact Or.inr (fun q2 => hg ⟨q, q2⟩)
    have f1 := w_wantS hC hp hi (v := lw y 100) (by omega) hb'
    obtain ⟨M2, k2, u2, pg2, tl2, tx2, g1, g2, g3⟩ := c_w567 (N := N) (L := L) (xs := xs) (t := t) (px := px) (py := py) hC hK y (wn k px py)
    refine ⟨M2, k2, u2, pg2, tl2, tx2, ?_, g2, g3⟩
    rw [← g1]
    have t510 : ff_L_law_j510 L xs M b t y px py (wn k px py) 0 = ff_L_law_j567 L xs M b t y px py (wn k px py) (wn k px py) := by
      simp (decide := true) only [ff_L_law_j510, ff_L_law_j543, l1, i_c hC, f1, mm_u2, c0, Option.bind_some, if_true, if_false]
    by_cases q : bor k px py
    · obtain ⟨r, r1, r2⟩ := r_cell3 hC hp hi q
      have hr : r ≠ -4 := by
        have hp' := hp
        unfold Rp at hp'
        unfold ins at hi
        have := (bn_r (w := (k 0).toInt) (h := (k 1).toInt) (x := px.toInt) (y := py.toInt) (by omega) (by omega) (by omega) (by omega) (by omega) (by omega)).1
        rw [Ne, zz_e, zm4, r2]
        omega
      simp (decide := true) only [ff_L_law_j175, ff_L_law_j509, i_c hC, c0, r1, if_neg hr, t510, Option.bind_some, if_true, if_false]
    · have hl := hb'.resolve_left q
      have hlr := lx_r hp hI.2.1 hi
      have h4 : lx k px py ≠ -4 := by rw [Ne, zz_e, zm4]; omega
      rw [if_neg hl] at c1
      have c3 := r_cell3n hC hp hi q
      simp (decide := true) only [ff_L_law_j175, ff_L_law_j509, i_c hC, c0, c3, c1, if_neg h4, t510, Option.bind_some, if_true, if_false]
end CA
