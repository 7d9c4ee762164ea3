/-! the law answers true -/
section LT
variable {n N : Int} {b u tl : Nat} {M : mm_M} {k tx : Nat → Int32} {pg : Nat → Nat → Int32} {L : Nat} {xs : Nat → Int32}
theorem lot_ok (L : Nat) (hL : L ≤ 260) (xs : Nat → Int32) {q : Int32} (hq : 0 ≤ q.toInt) : ∃ v, mm_lot L xs q = some v := by
  have eL : (Int32.ofNat L).toInt = L := zz_nI L (by omega)
  unfold mm_lot
  by_cases h : Int32.ofNat L ≤ q
  · exact ⟨_, if_pos h⟩
  · rw [if_neg h, if_pos ⟨hq, by rw [zz_le] at h; omega⟩]
    exact ⟨_, rfl⟩
theorem l_1271 (hC : Ci M b k u pg tl tx) (hP : JP N k) {t : Nat} (ht : t < 44) (px py : Int32) : ff_L_law_j1271 L xs M b (nI t) px py = some (.inl (nI (t + 1), M)) := by
  have h1 := l_sound hC hP
  have h2 := l_near hC hP.1 px py
  have h3 := l_border hC hP.1
  have erm : mm_rm (nI t) 4 = some (nI t - nI t / 4 * 4) := zz_rm (by decide)
  have e : ff_L_law_j1305 L xs M b (nI t) = some (.inl (nI (t + 1), M)) := by
    unfold ff_L_law_j1305
    rw [nI_1]
  unfold ff_L_law_j1271
  refine ob h1 (it0 (by decide) (ob h2 (it0 (by decide) (ob erm ?_))))
  by_cases hq : nI t - nI t / 4 * 4 = 3
  · exact it1 hq (ob h3 (it0 (by decide) e))
  · exact it0 hq e
theorem l_132 (hC : Ci M b k u pg tl tx) (hK : KJ N k u pg tl) (hN : N ≤ 1000) (t x y : Int32) {m : Nat} (hm : m ≤ 15) : ∃ px py, CX N b L xs t px py (ff_L_law_j132 L xs M b t x y (nI m)) := by
  have hp := hK.1.1.1
  have hp' := hp
  unfold Rp at hp'
  have p1 := lw_r (x >>> ((5 : Int32) &&& 31)) (n := k 0) (by omega)
  have p2 := lw_r (x >>> ((9 : Int32) &&& 31)) (n := k 1) (by omega)
  have l1 := l_low M (x >>> ((5 : Int32) &&& 31)) (n := k 0) (by omega)
  have l2 := l_low M (x >>> ((9 : Int32) &&& 31)) (n := k 1) (by omega)
  refine ⟨lw (x >>> ((5 : Int32) &&& 31)) (k 0), lw (x >>> ((9 : Int32) &&& 31)) (k 1), ?_⟩
  have hi : ins k (lw (x >>> ((5 : Int32) &&& 31)) (k 0)) (lw (x >>> ((9 : Int32) &&& 31)) (k 1)) := by unfold ins; omega
  generalize lw (x >>> ((5 : Int32) &&& 31)) (k 0) = px at *
  generalize lw (x >>> ((9 : Int32) &&& 31)) (k 1) = py at *
  obtain ⟨ld, h1, h2⟩ : ∃ ld, LD k ld ∧ ff_L_law_j132 L xs M b t x y (nI m) = ff_L_law_j175 L xs M b t y (nI m) px py ld := by
    unfold ff_L_law_j132
    by_cases hl : lc k ≤ 0
    · exact ⟨0, Or.inl ⟨rfl, hl⟩, ob (i_c hC) (ob (r_c0 hC) (ob l1 (ob (i_c hC) (ob (r_c1 hC) (ob l2 (ob (i_c hC) (ob (r_c6 hC) (it1 hl rfl))))))))⟩
    · exact ⟨1, Or.inr ⟨rfl, hl⟩, ob (i_c hC) (ob (r_c0 hC) (ob l1 (ob (i_c hC) (ob (r_c1 hC) (ob l2 (ob (i_c hC) (ob (r_c6 hC) (it0 hl rfl))))))))⟩
  rw [h2]
  have e919 : ∀ how : Int32, ¬ how = 0 → ¬ how = 1 → ¬ how = 2 → ¬ how = 3 → ¬ how = 4 → (7 : Int32) ≤ how → ¬ how = 7 → ff_L_law_j175 L xs M b t y how px py ld = ff_L_law_j919 L xs M b t y how px py := by
    intro how a0 a1 a2 a3 a4 a5 a6
    unfold ff_L_law_j175
    exact it0 a0 (it0 a1 (it0 a2 (it0 a3 (it0 a4 (it1 a5 (it0 a6 rfl))))))
  have hh : m = 0 ∨ m = 1 ∨ m = 2 ∨ m = 3 ∨ m = 4 ∨ m = 5 ∨ m = 6 ∨ m = 7 ∨ m = 8 ∨ m = 9 ∨ m = 10 ∨ m = 11 ∨ m = 12 ∨ m = 13 ∨ m = 14 ∨ m = 15 := by omega
  rcases hh with rfl | rfl | rfl | rfl | rfl | rfl | rfl | rfl | rfl | rfl | rfl | rfl | rfl | rfl | rfl | rfl
  · exact c_floor hC hK h1 y
  · exact c_patt hC hK ld y
  · exact c_way hC hK h1 y
  · exact c_size hC hK h1 y
  · exact c_want hC hK hi ld y
  · exact c_strip hC hK ld y (Or.inl rfl)
  · exact c_strip hC hK ld y (Or.inr rfl)
  · exact c_cut hC hK hi ld y
  · rw [e919 (nI 8) (by decide) (by decide) (by decide) (by decide) (by decide) (by decide) (by decide)]
    exact c_lays hC hK hi y (by decide)
  · rw [e919 (nI 9) (by decide) (by decide) (by decide) (by decide) (by decide) (by decide) (by decide)]
    exact c_lays hC hK hi y (by decide)
  · rw [e919 (nI 10) (by decide) (by decide) (by decide) (by decide) (by decide) (by decide) (by decide)]
    exact c_lays hC hK hi y (by decide)
  · rw [e919 (nI 11) (by decide) (by decide) (by decide) (by decide) (by decide) (by decide) (by decide)]
    exact c_lays hC hK hi y (by decide)
  · rw [e919 (nI 12) (by decide) (by decide) (by decide) (by decide) (by decide) (by decide) (by decide)]
    exact c_all hC hK y
  · rw [e919 (nI 13) (by decide) (by decide) (by decide) (by decide) (by decide) (by decide) (by decide)]
    exact c_lift hC hK hN hi y (Or.inl rfl)
  · rw [e919 (nI 14) (by decide) (by decide) (by decide) (by decide) (by decide) (by decide) (by decide)]
    exact c_lift hC hK hN hi y (Or.inr rfl)
  · rw [e919 (nI 15) (by decide) (by decide) (by decide) (by decide) (by decide) (by decide) (by decide)]
    exact c_lack hC hK hi y
theorem e16i : (16 : Int32).toInt = 16 := rfl
theorem l_step (hL : L ≤ 260) {t : Nat} (ht : t < 44) (hJ : JV t b M) : ∃ M', ff_L_law_l82 L xs b (nI t) M = some (.inl (nI (t + 1), M')) ∧ JV ((t : Int) + 1) b M' := by
  obtain ⟨k, u, pg, tl, tx, hC, hK⟩ := hJ
  have et := zz_nI t (by omega)
  have e2 : (2 * nI t).toInt = 2 * t := by rw [zz_m (by rw [z2]; omega) (by rw [z2]; omega), z2, et]
  obtain ⟨x, hx⟩ := lot_ok L hL xs (q := 2 * nI t) (by omega)
  obtain ⟨y, hy⟩ := lot_ok L hL xs (q := 2 * nI t + 1) (by rw [zz_a (by rw [z1]; omega) (by rw [z1]; omega), z1]; omega)
  have fin : ∀ m : Nat, m ≤ 15 → ∃ M', ff_L_law_j132 L xs M b (nI t) x y (nI m) = some (.inl (nI (t + 1), M')) ∧ JV ((t : Int) + 1) b M' := by
    intro m hm
    obtain ⟨px, py, M', k', u', pg', tl', tx', q1, q2, q3⟩ := l_132 (L := L) (xs := xs) hC hK (by omega) (nI t) x y hm
    exact ⟨M', by rw [q1]; exact l_1271 q2 q3.1 ht px py, k', u', pg', tl', tx', q2, q3⟩
  have n44 : ¬ (44 : Int32) ≤ nI t := by rw [zz_le, et, show (44 : Int32).toInt = 44 from rfl]; omega
  unfold ff_L_law_l82
  by_cases h3 : (3 : Int32) ≤ nI t
  · by_cases h8 : (8 : Int32) ≤ nI t
    · have r := lw_r x (n := 16) (by decide)
      rw [e16i] at r
      obtain ⟨m, m1, m2⟩ := nat_of (a := lw x 16) r.1
      obtain ⟨M', f1, f2⟩ := fin m (by omega)
      rw [← m2] at f1
      exact ⟨M', it0 n44 (ob hx (ob hy (it1 h3 (it1 h8 (ob (l_low M x (n := 16) (by decide)) f1))))), f2⟩
    · obtain ⟨M', f1, f2⟩ := fin 5 (by omega)
      exact ⟨M', it0 n44 (ob hx (ob hy (it1 h3 (it0 h8 f1)))), f2⟩
  · have : t < 3 := by
      rw [zz_le, et, z3] at h3
      omega
    obtain ⟨M', f1, f2⟩ := fin t (by omega)
    exact ⟨M', it0 n44 (ob hx (ob hy (it0 h3 f1))), f2⟩
/-- without stone nothing is laid -/
theorem pL_no {a c : Int32} (h : ∀ s, ¬ av k s) : pL k a c = k := by
  unfold pL
  rw [nf_eq (k := k) (w := (wn k a c).toInt) (Or.inl ⟨rfl, h⟩), if_pos rfl]
  split <;> rfl
theorem pb_no (h : ∀ s, ¬ av k s) : ∀ t, pb k t = k
  | 0 => rfl
  | t + 1 => by
    show pL (pb k t) _ _ = k
    rw [pb_no h t]
    exact pL_no h
theorem pr_no (h : ∀ s, ¬ av k s) (y : Nat) : ∀ t, pr k y t = k
  | 0 => rfl
  | t + 1 => by
    show pL (pr k y t) _ _ = k
    rw [pr_no h y t]
    exact pL_no h
theorem pf_no (h : ∀ s, ¬ av k s) (w : Nat) : ∀ t, pf k w t = k
  | 0 => rfl
  | t + 1 => by
    show pr (pf k w t) (t + 1) w = k
    rw [pf_no h w t]
    exact pr_no h _ _
theorem av_k0 : ∀ s, ¬ av k0 s := by
  rintro s (⟨h1, h2⟩ | ⟨q, q1, q2, q3⟩)
  · rw [k0_z (by omega), z0] at h2
    omega
  · have e : ta k0 q = 0 := by
      unfold ta
      rw [k0_z (j := 408 + 11 * q) (by omega), k0_z (j := 410 + 11 * q) (by omega), show k0 2 = 20 from rfl, if_pos (by decide)]
    unfold ga at q3
    rw [e] at q3
    exact absurd q3 (Nat.lt_irrefl 0)
theorem pA_k0 : pA k0 = k0 := by
  unfold pA
  rw [pb_no av_k0]
  exact pf_no av_k0 _ _
theorem law_true (hL : L ≤ 260) (xs : Nat → Int32) (hC : Ci M b k0 0 (fun _ => k0) 0 (fun _ => 0)) : ∃ M2, ff_L_law L xs M b = some (1, M2) := by
  have hP := JP_0
  have hI := hP.1
  have hK : KJ 0 k0 0 (fun _ => k0) 0 := ⟨hP, by omega, by omega, fun i hi => by omega⟩
  have f1 := l_refuses hC hI
  have f2 := w_undoS hC
  have f3 := l_sound hC hP
  have f4 := l_border hC hI
  have f5 := r_c0 hC
  have f6 := r_c1 hC
  have f7 : ff_X6_fault M b = some 0 := by
    obtain ⟨r, r1, r2⟩ := r_fault hC (by omega)
    have hr : r = 0 := FR_uniq r1 (Or.inr ⟨0, 0, rfl, by rw [if_pos rfl]; rfl⟩)
    rw [r2, hr, if_neg (by decide)]
  obtain ⟨M1, g1, C1⟩ := w_layAll hC (by omega) hI
  rw [pA_k0, Int32.sub_self] at g1
  rw [pA_k0] at C1
  have K1 := KJ_keep hK (Int.le_refl 0) hP
  obtain ⟨M2, g2, C2⟩ := w_undo C1 (uk_pos 0).2 (uk_pos 0).1
  rw [pgk_top] at C2
  have K2 := KJ_back K1 hP
  -- the loop
  obtain ⟨e, h1, z, M3, rfl, h2⟩ := it_inv (body := mm_u2 (ff_L_law_l82 L xs b)) (fun t (st : Int32 × mm_M) => st.1 = nI t ∧ JV (t : Int) b st.2) (fun e => ∃ z M', e = .inl (z, M') ∧ JV 44 b M') 44 (by
      rintro t ⟨z, M'⟩ ht ⟨q1, q2⟩
      dsimp only at q1 q2
      subst q1
      obtain ⟨M4, p1, p2⟩ := l_step (L := L) (xs := xs) hL ht q2
      exact Or.inl ⟨(nI (t + 1), M4), p1, rfl, p2⟩) (by
      rintro ⟨z, M'⟩ ⟨q1, q2⟩
      dsimp only at q1 q2
      subst q1
      refine ⟨.inl (nI 44, M'), ?_, nI 44, M', rfl, q2⟩
      show ff_L_law_l82 L xs b (nI 44) M' = _
      unfold ff_L_law_l82
      exact it1 (by decide) rfl) ((0 : Int32), M2) mm_fu (mm_fu_gt (by omega)) ⟨rfl, k0, _, _, 0, _, C2, K2⟩
  obtain ⟨k, u, pg, tl, tx, C3, K3⟩ := h2
  have f8 := l_refuses C3 K3.1.1
  refine ⟨M3, ?_⟩
  unfold ff_L_law
  refine ob2 f1 (it0 (by decide) (ob (i_c hC) (ob2 f2 (it1 rfl (ob f3 (it0 (by decide) (ob f4 (it0 (by decide) ?_))))))))
  refine ob (i_c hC) (ob f5 (it1 rfl (ob (i_c hC) (ob f6 (it1 rfl (ob (i_c hC) (ob f7 (it1 rfl ?_))))))))
  refine ob (i_c hC) (ob2 g1 (it1 rfl (ob (i_c C1) (ob2 g2 (it1 rfl ?_)))))
  refine ob h1 ?_
  show Option.bind (ff_L_refuses M3 b) _ = _
  exact ob2 f8 (ob zz_bz1 rfl)
end LT
