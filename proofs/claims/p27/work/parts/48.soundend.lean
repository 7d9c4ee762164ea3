/-! the law's sound: its end -/
section SE
variable {n N : Int} {b u tl : Nat} {M : mm_M} {k tx : Nat → Int32} {pg : Nat → Nat → Int32}
theorem su_rect {f : Nat → Nat → Int32} {w h : Nat} (hw : 0 < w) : su (fun c => f (c % w) (c / w)) (w * h) = su (fun y => su (fun x => f x y) w) h := by
  rw [su_mul]
  refine su_congr (fun y _ => su_congr (fun x hx => ?_))
  show f ((x + w * y) % w) ((x + w * y) / w) = f x y
  rw [Nat.add_mul_mod_self_left, Nat.mod_eq_of_lt hx, Nat.add_mul_div_left _ _ hw, Nat.div_eq_of_lt hx, Nat.zero_add]
theorem dl_lc (hI : IP 2000 k) {w h : Nat} (ew : (k 0).toInt = w) (eh : (k 1).toInt = h) : su (dl k w) (w * h) = lc k := by
  have hp := hI.1
  unfold Rp at hp
  have hl := hI.2.1.2.1
  have e1 : su (dl k w) (w * h) = su (fun y => su (fun x => if lx k (nI x) (nI y) = -1 then (0 : Int32) else 1) w) h := su_rect (f := fun x y => if lx k (nI x) (nI y) = -1 then (0 : Int32) else 1) (by omega)
  have e2 : lc k = su (fun y => su (fun x => if k (164 + (x + 12 * y)) = -1 then (0 : Int32) else 1) 12) 12 := su_mul (fun j => if k (164 + j) = -1 then (0 : Int32) else 1) 12 12
  rw [e1, e2]
  have out : ∀ x y : Nat, x < 12 → y < 12 → ¬ (x < w ∧ y < h) → k (164 + (x + 12 * y)) = -1 := fun x y hx hy hn => by
    have := hl x y hx hy (by omega)
    rw [show 164 + (x + 12 * y) = 164 + (12 * y + x) by omega]
    exact this
  rw [su_cut (f := fun y => su (fun x => if k (164 + (x + 12 * y)) = -1 then (0 : Int32) else 1) 12) (n := h) (m := 12) (by omega) (fun y h1 h2 => su_zero (fun x hx => by
    show (if k (164 + (x + 12 * y)) = -1 then (0 : Int32) else 1) = 0
    rw [if_pos (out x y hx h2 (by omega))]))]
  refine su_congr (fun y hy => ?_)
  rw [su_cut (f := fun x => if k (164 + (x + 12 * y)) = -1 then (0 : Int32) else 1) (n := w) (m := 12) (by omega) (fun x h1 h2 => by
    show (if k (164 + (x + 12 * y)) = -1 then (0 : Int32) else 1) = 0
    rw [if_pos (out x y h2 (by omega) (by omega))])]
  refine su_congr (fun x hx => ?_)
  show (if lx k (nI x) (nI y) = -1 then (0 : Int32) else 1) = if k (164 + (x + 12 * y)) = -1 then (0 : Int32) else 1
  rw [lx_nn k (by omega) (by omega), show 164 + (12 * y + x) = 164 + (x + 12 * y) by omega]
theorem dd_sd (hI : IP 2000 k) {w h : Nat} (ew : (k 0).toInt = w) (eh : (k 1).toInt = h) : su (dd k w) (w * h) = sd k := by
  have hp := hI.1
  unfold Rp at hp
  unfold sd
  rw [ew, eh, Int.toNat_natCast, Int.toNat_natCast]
  exact su_rect (f := fun x y => df k (nI x) (nI y)) (by omega)
theorem mo_v (k : Nat → Int32) (w : Nat) : ∀ c : Nat, (∀ q, q < c → (bb k w q).toInt ≤ (mo k w c).toInt) ∧ (mo k w c = -4 ∨ ∃ q, q < c ∧ mo k w c = bb k w q)
  | 0 => ⟨fun q hq => by omega, Or.inl rfl⟩
  | c + 1 => by
    obtain ⟨h1, h2⟩ := mo_v k w c
    show (∀ q, q < c + 1 → (bb k w q).toInt ≤ (if bb k w c ≤ mo k w c then mo k w c else bb k w c).toInt) ∧ ((if bb k w c ≤ mo k w c then mo k w c else bb k w c) = -4 ∨ ∃ q, q < c + 1 ∧ (if bb k w c ≤ mo k w c then mo k w c else bb k w c) = bb k w q)
    by_cases hc : bb k w c ≤ mo k w c
    · rw [if_pos hc]
      rw [zz_le] at hc
      refine ⟨fun q hq => ?_, ?_⟩
      · by_cases hqc : q = c
        · rw [hqc]; exact hc
        · exact h1 q (by omega)
      · rcases h2 with q | ⟨q, q1, q2⟩
        · exact Or.inl q
        · exact Or.inr ⟨q, by omega, q2⟩
    · rw [if_neg hc]
      rw [zz_le] at hc
      refine ⟨fun q hq => ?_, Or.inr ⟨c, by omega, rfl⟩⟩
      by_cases hqc : q = c
      · rw [hqc]; exact Int.le_refl _
      · have := h1 q (by omega)
        omega
theorem mo_8 (hC : Ci M b k u pg tl tx) (hI : IP 2000 k) {w h : Nat} (ew : (k 0).toInt = w) (eh : (k 1).toInt = h) : ff_X6_count M b 8 = some (mo k w (w * h)) := by
  have hp := hI.1
  have hp' := hp
  unfold Rp at hp'
  obtain ⟨v, v1, v2, v3, v4⟩ := r_c8 hC hp
  rw [v4]
  obtain ⟨m1, m2⟩ := mo_v k w (w * h)
  -- of a cell
  have hcell : ∀ a c : Nat, a < w → c < h → bb k w (a + w * c) = (if lx k (nI a) (nI c) = -1 then -4 else df k (nI a) (nI c)) ∧ a + w * c < w * h := by
    intro a c ha hc
    unfold bb
    rw [Nat.add_mul_mod_self_left, Nat.mod_eq_of_lt ha, Nat.add_mul_div_left _ _ (by omega), Nat.div_eq_of_lt ha, Nat.zero_add]
    refine ⟨rfl, ?_⟩
    have : w * (c + 1) ≤ w * h := Nat.mul_le_mul_left w (by omega)
    rw [Nat.mul_succ] at this
    omega
  have hfrom : ∀ q, q < w * h → q % w < w ∧ q / w < h := fun q hq => ⟨(cdiv (by omega) hq).1, (cdiv (by omega) hq).2.1⟩
  congr 1
  by_cases hlc : lc k ≤ 0
  · rw [if_pos hlc]
    rw [zz_le, z0] at hlc
    rcases m2 with q | ⟨q, q1, q2⟩
    · exact q.symm
    · obtain ⟨d1, d2⟩ := hfrom q q1
      have : lx k (nI (q % w)) (nI (q / w)) = -1 := by
        rw [lx_nn k (by omega) (by omega)]
        exact lc_0 hI.2.1 hlc _ (by omega)
      rw [q2]
      unfold bb
      rw [if_pos this]
  · rw [if_neg hlc]
    rw [zz_le, z0] at hlc
    obtain ⟨j, j1, j2⟩ := lc_p hI.2.1 hlc
    have hj : j % 12 < w ∧ j / 12 < h := by
      refine Classical.byContradiction fun q => j2 ?_
      have := hI.2.1.2.1 (j % 12) (j / 12) (by omega) (by omega) (by omega)
      rw [show 12 * (j / 12) + j % 12 = j by omega] at this
      exact this
    have hjl : lx k (nI (j % 12)) (nI (j / 12)) ≠ -1 := by
      rw [lx_nn k (by omega) (by omega), show 12 * (j / 12) + j % 12 = j by omega]
      exact j2
    obtain ⟨q1, q3⟩ := hcell _ _ hj.1 hj.2
    rw [if_neg hjl] at q1
    have hdj := df_r hp hI.2.1 (ins_n ew eh hj.1 hj.2 hp)
    have hge : 0 ≤ (mo k w (w * h)).toInt := by
      have := m1 _ q3
      rw [q1] at this
      omega
    have hle : (mo k w (w * h)).toInt ≤ v.toInt := by
      rcases m2 with q | ⟨q, p1, p2⟩
      · rw [q, zm4] at hge
        omega
      · obtain ⟨d1, d2⟩ := hfrom q p1
        by_cases hl : lx k (nI (q % w)) (nI (q / w)) = -1
        · rw [p2] at hge
          unfold bb at hge
          rw [if_pos hl, zm4] at hge
          omega
        · have := v2 (q % w) (q / w) (by omega) (by omega)
          rw [p2]
          unfold bb
          rw [if_neg hl]
          exact this
    have hve : v.toInt ≤ (mo k w (w * h)).toInt := by
      rcases v3 with rfl | ⟨a, c, a1, c1, e⟩
      · rw [z0]; exact hge
      · obtain ⟨p1, p3⟩ := hcell a c (by omega) (by omega)
        by_cases hl : lx k (nI a) (nI c) = -1
        · have : df k (nI a) (nI c) = 0 := by unfold df; rw [if_pos hl]
          rw [← e, this, z0]; exact hge
        · rw [if_neg hl, e] at p1
          have := m1 _ p3
          rw [p1] at this
          exact this
    rw [zz_e]
    omega
theorem l_sound (hC : Ci M b k u pg tl tx) (hP : JP N k) : ff_L_sound M b = some 1 := by
  obtain ⟨hI, h7, hA, hG, hk7⟩ := hP
  have hp := hI.1
  have hp' := hp
  unfold Rp at hp'
  obtain ⟨w, ew, -⟩ := nat_of (a := k 0) (by omega)
  obtain ⟨h, eh, -⟩ := nat_of (a := k 1) (by omega)
  have hw7 : w ≤ 7 ∧ h ≤ 7 := by omega
  have s1 := l_so1 hC hI hA (k 0) (k 1) (k 2) 0 0 0
  have hcc := (cc_v hI hA).2
  have e1 : su (cc k) 6 = su (fun i => k (408 + 11 * i)) 10 := by rw [zz_e]; exact hcc
  rw [e1] at s1
  have s2 := l_so2 hC hI (k 0) (k 1) (su (fun i => k (408 + 11 * i)) 10)
  obtain ⟨l1, l2⟩ := so_len hI.2.2.1
  have hgood := so_good hI.2.2.1 hG
  rw [l1] at hgood
  rw [l1, l2] at s2
  have s3 := l_so3 hC hI ew eh hw7 (k 2) (su (fun i => k (408 + 11 * i)) 10) (su (fun i => k (408 + 11 * i)) 10) (su (fun i => k (408 + 11 * i) - k (410 + 11 * i)) 10) (su (fun i => k (412 + 11 * i)) (k 6).toInt.toNat)
  rw [dl_lc hI ew eh, dd_sd hI ew eh, bF_ok (by omega) hw7.1 (by omega) hw7.2] at s3
  have c8 := mo_8 hC hI ew eh
  have n2 := hB_2 hp
  have hN : 2 * hB k = nI (2 * (w + h - 2)) := by
    rw [zz_e, n2, zz_nI _ (by omega)]
    omega
  have hN2 : nI (2 * (w + h - 2)) = 2 * (k 0 + k 1) - 4 := by
    have ea : (k 0 + k 1).toInt = w + h := by rw [zz_a (by omega) (by omega)]; omega
    have em : (2 * (k 0 + k 1)).toInt = 2 * (w + h) := by rw [zz_m (by rw [z2]; omega) (by rw [z2]; omega), z2, ea]
    rw [zz_e, zz_nI _ (by omega), zz_s (by rw [z4]; omega) (by rw [z4]; omega), z4, em]
    omega
  have eN := zz_nI (2 * (w + h - 2)) (by omega)
  have i30 : ¬ (30 : Int32) ≤ nI (2 * (w + h - 2)) := by rw [zz_le, show (30 : Int32).toInt = 30 from rfl]; omega
  have i31 : ¬ (31 : Int32) ≤ nI (2 * (w + h - 2)) := by rw [zz_le, show (31 : Int32).toInt = 31 from rfl]; omega
  have i7 : ¬ k 7 < 0 := by rw [zz_lt, z0]; omega
  have ig : ¬ su (fun i => k (408 + 11 * i)) 10 < su (fun i => k (412 + 11 * i)) (k 6).toInt.toNat := by rw [zz_lt]; omega
  have c2 := r_c2 hC
  rw [hN] at c2
  simp only [ff_L_sound, i_c hC, r_c0 hC, r_c1 hC, r_c15 hC, s1, Option.bind_some]
  show Option.bind (mm_it (mm_u4 (ff_L_sound_l73 M b (k 0) (k 1) (k 2) (su (fun i => k (408 + 11 * i)) 10))) mm_fu ((0 : Int32), (0 : Int32), (0 : Int32), (0 : Int32))) _ = _
  rw [s2, Option.bind_some]
  show Option.bind (mm_it (mm_u6 (ff_L_sound_l282 M b (k 0) (k 1) (k 2) (su (fun i => k (408 + 11 * i)) 10) (su (fun i => k (408 + 11 * i)) 10) (su (fun i => k (408 + 11 * i) - k (410 + 11 * i)) 10) (su (fun i => k (412 + 11 * i)) (k 6).toInt.toNat))) mm_fu ((0 : Int32), (0 : Int32), (-4 : Int32), (0 : Int32), (0 : Int32), (0 : Int32))) _ = _
  rw [s3, Option.bind_some]
  show Option.bind (ff_X6_count M b 2) _ = _
  rw [c2, Option.bind_some, if_neg i30]
  dsimp only
  simp only [ff_L_sound_j614]
  rw [if_neg i31]
  simp only [ff_L_sound_j636, i_c hC, r_c20 hC, r_c21 hC, r_c22 hC, r_c10 hC, r_c23 hC, r_c6 hC, r_c7 hC hp, c8, r_c12 hC, Option.bind_some, if_true, ← hN2, if_neg i7, if_neg ig]
end SE
