/-! the reference's second pass: border cells change nothing there -/
noncomputable def K2 (kb : Nat → Int32) (w h x y : Nat) : Nat → Int32 := if y = 0 then kb else if y + 1 < h then pr (pf kb (w - 2) (y - 1)) y (x - 1) else pf kb (w - 2) (h - 2)
theorem K2_0 (kb : Nat → Int32) (w h x : Nat) : K2 kb w h x 0 = kb := by unfold K2; rw [if_pos rfl]
theorem K2_w (kb : Nat → Int32) {w h x y : Nat} {j : Nat} (h1 : j < 164) (h2 : j ≠ 10) (h3 : j ≠ 8) (h4 : j ≠ 9) : K2 kb w h x y j = kb j := by
  unfold K2
  split
  · rfl
  · split
    · rw [pr_w h1 h2 h3 h4, pf_w h1 h2 h3 h4]
    · rw [pf_w h1 h2 h3 h4]
/-- from a cell to the next -/
theorem K2_s (kb : Nat → Int32) {w h x y : Nat} (hw : 3 ≤ w) (hh : 3 ≤ h) (hx : x < w) (hy : y < h) :
    ((x = 0 ∨ x = w - 1 ∨ y = 0 ∨ y = h - 1) → (if x + 1 < w then K2 kb w h (x + 1) y else K2 kb w h 0 (y + 1)) = K2 kb w h x y) ∧
    (¬ (x = 0 ∨ x = w - 1 ∨ y = 0 ∨ y = h - 1) → x + 1 < w ∧ K2 kb w h (x + 1) y = pL (K2 kb w h x y) (nI x) (nI y)) := by
  constructor
  · intro hb
    by_cases hy0 : y = 0
    · subst hy0
      rw [K2_0, K2_0]
      split
      · rfl
      · unfold K2
        rw [if_neg (by omega), if_pos (by omega)]
        rfl
    · by_cases hyl : y + 1 < h
      · by_cases hx0 : x = 0
        · subst hx0
          rw [if_pos (by omega)]
          unfold K2
          rw [if_neg hy0, if_pos hyl]
        · rw [if_neg (by omega)]
          have e : K2 kb w h x y = pf kb (w - 2) y := by
            unfold K2
            rw [if_neg hy0, if_pos hyl]
            obtain ⟨q, rfl⟩ : ∃ q, y = q + 1 := ⟨y - 1, by omega⟩
            rw [show x - 1 = w - 2 by omega]
            rfl
          rw [e]
          unfold K2
          rw [if_neg (by omega)]
          by_cases hy2 : y + 1 + 1 < h
          · rw [if_pos hy2]
            rfl
          · rw [if_neg hy2, show h - 2 = y by omega]
      · have e : ∀ a b, h - 1 ≤ b → K2 kb w h a b = pf kb (w - 2) (h - 2) := by
          intro a b hab
          unfold K2
          rw [if_neg (by omega), if_neg (by omega)]
        rw [e x y (by omega), e (x + 1) y (by omega), e 0 (y + 1) (by omega)]
        split <;> rfl
  · intro hb
    refine ⟨by omega, ?_⟩
    unfold K2
    rw [if_neg (by omega), if_pos (by omega), if_neg (by omega), if_pos (by omega)]
    obtain ⟨q, rfl⟩ : ∃ q, x = q + 1 := ⟨x - 1, by omega⟩
    rfl
section MF
variable {M : mm_M} {y : Nat} {k m : Nat → Int32} {n : Int}
theorem m_laysAll (h : Mo M y m) (R : PR k m) (hI : IP n k) : ∃ m', ff_X7_laysAll M y = some (lc (pA k) - lc k, wm M y m') ∧ PR (pA k) m' ∧ IP n (pA k) := by
  obtain ⟨mb, b1, b2, b3, b4⟩ := m_border h R hI
  have hp := hI.1
  have hp' := hp
  unfold Rp at hp'
  obtain ⟨w, ew⟩ : ∃ w : Nat, (k 0).toInt = w := ⟨(k 0).toInt.toNat, by omega⟩
  obtain ⟨r, er⟩ : ∃ r : Nat, (k 1).toInt = r := ⟨(k 1).toInt.toNat, by omega⟩
  simp only [ff_X7_laysAll, n_m h, q0 h, q1 h, b1, Option.bind_some]
  unfold pA
  rw [ew, er] at b2 b3 b4 ⊢
  simp only [Int.toNat_natCast] at b2 b3 b4 ⊢
  have hb0 : pb k (2 * (w + r - 2)) 0 = k 0 := pb_w (by omega) (by omega) (by omega) (by omega) _
  have hb1 : pb k (2 * (w + r - 2)) 1 = k 1 := pb_w (by omega) (by omega) (by omega) (by omega) _
  generalize pb k (2 * (w + r - 2)) = kb at *
  have hwr : w * r ≤ 144 := by
    have : w * r ≤ 12 * 12 := Nat.mul_le_mul (by omega) (by omega)
    omega
  have hend : K2 kb w r 0 r = pf kb (w - 2) (r - 2) := by
    unfold K2
    rw [if_neg (by omega), if_neg (by omega)]
  obtain ⟨e, g1, m', g2, g3, g4⟩ := it_inv (body := mm_u3 (ff_X7_laysAll_l158 y)) (fun t (s : Int32 × Int32 × mm_M) => ∃ x z m', t = x + w * z ∧ x < w ∧ s = (lc (K2 kb w r x z) - lc k, nI t, wm M y m') ∧ PR (K2 kb w r x z) m' ∧ IP n (K2 kb w r x z) ∧ JB (K2 kb w r x z) k (2 * (w + r - 2)))
    (fun e => ∃ m', e = (lc (pf kb (w - 2) (r - 2)) - lc k, nI (w * r), wm M y m') ∧ PR (pf kb (w - 2) (r - 2)) m' ∧ IP n (pf kb (w - 2) (r - 2))) (w * r) (by
      rintro t s ht ⟨x, z, m1, rfl, hx, rfl, R1, I1, J1⟩
      refine Or.inl ?_
      have hz : z < r := by
        rcases Nat.lt_or_ge z r with q | q
        · exact q
        · have : w * r ≤ w * z := Nat.mul_le_mul_left w q
          omega
      have et := zz_nI (x + w * z) (by omega)
      have H1 := Mo_w h m1
      have hk0 : K2 kb w r x z 0 = k 0 := by rw [K2_w kb (by omega) (by omega) (by omega) (by omega), hb0]
      have hk1 : K2 kb w r x z 1 = k 1 := by rw [K2_w kb (by omega) (by omega) (by omega) (by omega), hb1]
      have h0 : m1 0 = k 0 := by rw [R1.lo 0 (by omega), hk0]
      have h1 : m1 1 = k 1 := by rw [R1.lo 1 (by omega), hk1]
      have hcl := (m_wh (PR_Rp R1 I1.1)).1
      rw [h0, h1, ew, er] at hcl
      have hcl2 : (k 0 * k 1).toInt = ((w * r : Nat) : Int) := by rw [hcl]; rfl
      obtain ⟨⟨m2, q, s1, s2, s3⟩, s4, s5, s6⟩ := m_step H1 R1 I1 (a := x) (b := z) (by rw [hk0, ew]; omega) (by rw [hk1, er]; omega)
      rw [wm_wm, hk0, ew] at s1
      simp only [Int.toNat_natCast] at s1
      obtain ⟨c1, c2⟩ := K2_s kb (w := w) (h := r) (x := x) (y := z) (by omega) (by omega) hx hz
      have J2 := JB_pL hp J1 (by omega) (a := nI x) (b := nI z) s6
      -- the page after this cell
      have hstep : (if x + 1 < w then K2 kb w r (x + 1) z else K2 kb w r 0 (z + 1)) = pL (K2 kb w r x z) (nI x) (nI z) := by
        by_cases hbo : x = 0 ∨ x = w - 1 ∨ z = 0 ∨ z = r - 1
        · rw [c1 hbo]
          rcases J1 with J | J
          · rw [pL_no J]
          · obtain ⟨j, j1, j2, j3⟩ := bn_cO (w := w) (h := r) (a := x) (b := z) (by omega) (by omega) (by omega) (by omega) (by omega)
            have := J j (by omega)
            rw [ew, er, j2, j3] at this
            rw [show Int32.ofInt (x : Int) = nI x from rfl, show Int32.ofInt (z : Int) = nI z from rfl] at this
            unfold pL
            rw [if_neg this]
        · obtain ⟨d1, d2⟩ := c2 hbo
          rw [if_pos d1, d2]
      have hbody : ff_X7_laysAll_l158 y (lc (K2 kb w r x z) - lc k) (nI (x + w * z)) (wm M y m1) = some (.inl (lc (pL (K2 kb w r x z) (nI x) (nI z)) - lc k, nI (x + w * z + 1), wm M y m2)) := by
        simp only [ff_X7_laysAll_l158, c_m H1, m_cells H1, h0, h1, Option.bind_some]
        rw [if_neg (by rw [zz_le]; omega), s1, Option.bind_some]
        show some (Sum.inl (lc (K2 kb w r x z) - lc k + q, nI (x + w * z) + 1, wm M y m2)) = _
        rw [nI_1, i_sub, ← s3]
      refine ⟨_, hbody, ?_⟩
      rw [← hstep] at s2 s4 J2 ⊢
      by_cases hxw : x + 1 < w
      · rw [if_pos hxw] at s2 s4 J2 ⊢
        exact ⟨x + 1, z, m2, by omega, hxw, rfl, s2, s4, J2⟩
      · rw [if_neg hxw] at s2 s4 J2 ⊢
        exact ⟨0, z + 1, m2, by rw [Nat.mul_succ]; omega, by omega, rfl, s2, s4, J2⟩) (by
      rintro s ⟨x, z, m1, ht, hx, rfl, R1, I1, J1⟩
      obtain ⟨rfl, rfl⟩ := cx_inj (w := w) (x := 0) (y := r) (a := x) (b := z) (by omega) hx (by omega)
      have H1 := Mo_w h m1
      have et := zz_nI (w * r) (by omega)
      have hk0 : K2 kb w r 0 r 0 = k 0 := by rw [K2_w kb (by omega) (by omega) (by omega) (by omega), hb0]
      have hk1 : K2 kb w r 0 r 1 = k 1 := by rw [K2_w kb (by omega) (by omega) (by omega) (by omega), hb1]
      have h0 : m1 0 = k 0 := by rw [R1.lo 0 (by omega), hk0]
      have h1 : m1 1 = k 1 := by rw [R1.lo 1 (by omega), hk1]
      have hcl := (m_wh (PR_Rp R1 I1.1)).1
      rw [h0, h1, ew, er] at hcl
      have hcl2 : (k 0 * k 1).toInt = ((w * r : Nat) : Int) := by rw [hcl]; rfl
      rw [hend] at R1 I1
      refine ⟨(lc (pf kb (w - 2) (r - 2)) - lc k, nI (w * r), wm M y m1), ?_, m1, rfl, R1, I1⟩
      rw [← hend]
      show ff_X7_laysAll_l158 y _ (nI (w * r)) (wm M y m1) = _
      simp only [ff_X7_laysAll_l158, c_m H1, m_cells H1, h0, h1, Option.bind_some]
      rw [if_pos (by rw [zz_le]; omega)]) (lc kb - lc k, (0 : Int32), wm M y mb) mm_fu (mm_fu_gt (by omega)) ⟨0, 0, mb, by omega, by omega, by rw [K2_0]; rfl, by rw [K2_0]; exact b2, by rw [K2_0]; exact b3, by rw [K2_0]; exact b4⟩
  refine ⟨m', ?_, g3, g4⟩
  show Option.bind (mm_it (mm_u3 (ff_X7_laysAll_l158 y)) mm_fu (lc kb - lc k, (0 : Int32), wm M y mb)) _ = _
  rw [g1, g2, Option.bind_some]
  rfl
end MF
