/-! the law's helpers: low, near, lays, refuses -/
/-- what low answers -/
def lw (x n : Int32) : Int32 := (x &&& (2147483647 : Int32)) - (x &&& (2147483647 : Int32)) / n * n
theorem l_low (M : mm_M) (x : Int32) {n : Int32} (hn : 0 < n.toInt) : ff_L_low M x n = some (lw x n) := by
  simp only [ff_L_low, zz_rm hn, Option.bind_some]
  rfl
theorem lw_r (x : Int32) {n : Int32} (hn : 0 < n.toInt) : 0 ≤ (lw x n).toInt ∧ (lw x n).toInt < n.toInt := by
  obtain ⟨j, j1, j2⟩ := pk_andE x (m := 2147483647) 31 rfl
  have ej : (nI j).toInt = j := zz_nI j (by omega)
  unfold lw
  rw [j2, zz_rem (by omega) hn]
  exact ⟨Int.emod_nonneg _ (by omega), Int.emod_lt_of_pos _ hn⟩
theorem se_l2 {α β γ δ : Type} {f : α → β → Option γ} {g : δ → Option γ} {a : α} {c : β} : Sum.elim (mm_u2 f) g (Sum.inl (a, c)) = f a c := rfl
section LA
variable {n N : Int} {b u tl : Nat} {M : mm_M} {k tx : Nat → Int32} {pg : Nat → Nat → Int32}
theorem zm4 : (-4 : Int32).toInt = -4 := rfl
/-- one shade in near's loop -/
theorem l_nears (hC : Ci M b k u pg tl tx) (hI : IP 2000 k) {x y w its far a : Int32} {t : Nat} (ht : t < 100) (hw : 0 ≤ w.toInt + 1 ∧ w.toInt ≤ 99) (hits : its.toInt < 0 ∨ (its.toInt ≤ 99 ∧ far.toInt = (its.toInt - w.toInt).natAbs ∧ ∀ s : Nat, av k s → le3 w.toInt its.toInt s)) (ha : a = 0 ∨ a = 1) :
    ∃ a', ff_L_near_l41 M b x y w its far a (nI t) = some (.inl (a', nI (t + 1))) ∧ ((a' = 0 ∧ ¬ av k t ∧ a = 0) ∨ (a' = 1 ∧ (a = 1 ∨ av k t))) := by
  have et := zz_nI t (by omega)
  have hrd := r_ready hC hI.2.2.1 (x := nI t) (by omega)
  have erI := rdI_i hI.2.2.1 hI.2.2.2 (x := nI t) (by omega)
  rw [show (nI t).toInt.toNat = t by omega] at hrd erI
  have hpos := rdI_pos hI.2.2.1 hI.2.2.2 ht
  -- the distance
  have hby : ∃ by' : Int32, by'.toInt = (((t : Int) - w.toInt).natAbs : Int) ∧ ff_L_near_l41 M b x y w its far a (nI t) = ff_L_near_j65 M b x y w its far a (nI t) by' := by
    simp only [ff_L_near_l41]
    rw [if_neg (by rw [zz_le, z100]; omega)]
    by_cases hc : nI t ≤ w
    · rw [if_pos hc]
      rw [zz_le] at hc
      exact ⟨_, by rw [zz_s (by omega) (by omega)]; omega, rfl⟩
    · rw [if_neg hc]
      rw [zz_le] at hc
      exact ⟨_, by rw [zz_s (by omega) (by omega)]; omega, rfl⟩
  obtain ⟨by', b1, b2⟩ := hby
  rw [b2]
  simp only [ff_L_near_j65, i_c hC, hrd, Option.bind_some]
  by_cases hr : k (308 + t) + rdy k (nI t) 10 ≤ 0
  · rw [if_pos hr]
    rw [zz_le, z0, erI] at hr
    have hna : ¬ av k t := fun q => by have := hpos.mpr q; omega
    rcases ha with rfl | rfl
    · refine ⟨0, ?_, Or.inl ⟨rfl, hna, rfl⟩⟩
      simp (decide := true) only [ff_L_near_j81, ff_L_near_j98, ff_L_near_j133, if_true, if_false, nI_1, ite_self]
    · refine ⟨1, ?_, Or.inr ⟨rfl, Or.inl rfl⟩⟩
      simp (decide := true) only [ff_L_near_j81, ff_L_near_j93, ff_L_near_j98, ff_L_near_j133, if_true, if_false, nI_1, ite_self]
  · rw [if_neg hr]
    rw [zz_le, z0, erI] at hr
    have hav : av k t := hpos.mp (by omega)
    refine ⟨1, ?_, Or.inr ⟨rfl, Or.inr hav⟩⟩
    have e81 : ff_L_near_j81 M b x y w its far a (nI t) by' 1 = ff_L_near_j98 M b x y w its far (nI t) by' 1 1 := by
      simp (decide := true) only [ff_L_near_j81, ff_L_near_j93, if_true, if_false, ite_self]
    rw [e81]
    simp (decide := true) only [ff_L_near_j98, ff_L_near_j133, if_false, nI_1]
    rcases hits with h | ⟨h1, h2, h3⟩
    · rw [if_pos (by rw [zz_lt, z0]; exact h)]
    · by_cases h0 : its < 0
      · rw [if_pos h0]
      · rw [if_neg h0]
        have h4 := h3 t hav
        unfold le3 at h4
        rw [if_neg (by rw [zz_lt, b1, h2]; omega)]
        by_cases h5 : by' = far
        · rw [if_pos h5, if_pos ?_]
          rw [zz_e, b1, h2] at h5
          rw [zz_le, et]
          omega
        · rw [if_neg h5]
theorem l_nearl (hC : Ci M b k u pg tl tx) (hI : IP 2000 k) {x y w its far : Int32} (hw : 0 ≤ w.toInt + 1 ∧ w.toInt ≤ 99) (hits : its.toInt < 0 ∨ (its.toInt ≤ 99 ∧ far.toInt = (its.toInt - w.toInt).natAbs ∧ ∀ s : Nat, av k s → le3 w.toInt its.toInt s)) :
    ∃ a z, mm_it (mm_u2 (ff_L_near_l41 M b x y w its far)) mm_fu ((0 : Int32), (0 : Int32)) = some (.inl (a, z)) ∧ ((a = 0 ∧ ∀ s, ¬ av k s) ∨ (a = 1 ∧ ∃ s, av k s)) := by
  obtain ⟨e, g1, a, z, rfl, g2⟩ := it_inv (body := mm_u2 (ff_L_near_l41 M b x y w its far)) (fun t (st : Int32 × Int32) => st.2 = nI t ∧ ((st.1 = 0 ∧ ∀ s, s < t → ¬ av k s) ∨ (st.1 = 1 ∧ ∃ s, av k s))) (fun e => ∃ a z, e = .inl (a, z) ∧ ((a = 0 ∧ ∀ s, ¬ av k s) ∨ (a = 1 ∧ ∃ s, av k s))) 100 (by
      rintro t ⟨a, z⟩ ht ⟨hz, ha⟩
      dsimp only at hz ha
      subst hz
      obtain ⟨a', q1, q2⟩ := l_nears hC hI (x := x) (y := y) (far := far) ht hw hits (a := a) (by rcases ha with ⟨q, -⟩ | ⟨q, -⟩; exact Or.inl q; exact Or.inr q)
      refine Or.inl ⟨(a', nI (t + 1)), q1, rfl, ?_⟩
      rcases q2 with ⟨p1, p2, p3⟩ | ⟨p1, p2⟩
      · left
        refine ⟨p1, fun s hs => ?_⟩
        rcases ha with ⟨-, h⟩ | ⟨h, -⟩
        · by_cases hst : s = t
          · rw [hst]; exact p2
          · exact h s (by omega)
        · rw [p3] at h
          exact absurd h (by decide)
      · refine Or.inr ⟨p1, ?_⟩
        rcases p2 with p2 | p2
        · rcases ha with ⟨h, -⟩ | ⟨-, h⟩
          · rw [h] at p2
            exact absurd p2 (by decide)
          · exact h
        · exact ⟨t, p2⟩) (by
      rintro ⟨a, z⟩ ⟨hz, ha⟩
      dsimp only at hz ha
      subst hz
      refine ⟨.inl (a, nI 100), ?_, a, nI 100, rfl, ?_⟩
      · show ff_L_near_l41 M b x y w its far a (nI 100) = _
        simp only [ff_L_near_l41]
        rw [if_pos (by decide)]
      · rcases ha with ⟨p1, p2⟩ | p1
        · exact Or.inl ⟨p1, fun s q => p2 s (av_lt hI.2.2.1 q) q⟩
        · exact Or.inr p1) ((0 : Int32), (0 : Int32)) mm_fu (mm_fu_gt (by omega)) ⟨rfl, Or.inl ⟨rfl, fun s hs => by omega⟩⟩
  exact ⟨a, z, g1, g2⟩
theorem l_near (hC : Ci M b k u pg tl tx) (hI : IP 2000 k) (x y : Int32) : ff_L_near M b x y = some 1 := by
  by_cases hi : ins k x y
  · have hw := wn_r hI.1 hI.2.1 hi
    have hl := lx_r hI.1 hI.2.1 hi
    obtain ⟨n1, n2, n3⟩ := nf_nb hI.2.2.1 (wn k x y).toInt
    have c0 := r_cell0 hC hI.1 hi
    have c1 := r_cell1 hC hI.1 hi
    have nr := r_near hC hI hi
    by_cases hlx : lx k x y = -1
    · rw [if_pos hlx] at c1 nr
      by_cases hn : nf k (wn k x y).toInt = -1
      · rw [if_pos hn] at nr
        have hno : ∀ s, ¬ av k s := by
          rcases n1 with ⟨-, q⟩ | ⟨s, q, -⟩
          · exact q
          · omega
        have hle : (-4 : Int32) ≤ wn k x y := by rw [zz_le, zm4]; omega
        obtain ⟨a, z, l1, l2⟩ := l_nearl hC hI (x := x) (y := y) (w := wn k x y) (its := -4) (far := wn k x y - -4) (by omega) (Or.inl (by decide))
        simp (decide := true) only [ff_L_near, ff_L_near_j33, i_c hC, c0, nr, if_pos hle, l1, se_l2, c1, Option.bind_some, if_true, if_false]
        rcases l2 with ⟨rfl, -⟩ | ⟨rfl, s, hav⟩
        · rw [if_pos rfl]; rfl
        · exact absurd hav (hno s)
      · rw [if_neg hn] at nr
        have es : (Int32.ofInt (nf k (wn k x y).toInt)).toInt = nf k (wn k x y).toInt := ofI n2 n3
        obtain ⟨s, s1, s2, s3⟩ : ∃ s : Nat, nf k (wn k x y).toInt = s ∧ av k s ∧ ∀ t, av k t → le3 (wn k x y).toInt s t := by
          rcases n1 with ⟨q, -⟩ | q
          · exact absurd q hn
          · exact q
        generalize Int32.ofInt (nf k (wn k x y).toInt) = its at nr es
        rw [s1] at es
        have hs := av_lt hI.2.2.1 s2
        have hrd := r_ready hC hI.2.2.1 (x := its) (by omega)
        have erI := rdI_i hI.2.2.1 hI.2.2.2 (x := its) (by omega)
        have hpos := (rdI_pos hI.2.2.1 hI.2.2.2 hs).mpr s2
        have key : ∀ far : Int32, far.toInt = (its.toInt - (wn k x y).toInt).natAbs → ff_L_near_j33 M b x y (wn k x y) its far = some 1 := by
          intro far hf
          obtain ⟨a, z, l1, l2⟩ := l_nearl hC hI (x := x) (y := y) (w := wn k x y) (its := its) (far := far) (by omega) (Or.inr ⟨by omega, hf, fun t ht => by rw [es]; exact s3 t ht⟩)
          have hn0 : ¬ its < 0 := by rw [zz_lt, z0]; omega
          have hn1 : ¬ k (308 + its.toInt.toNat) + rdy k its 10 ≤ 0 := by
            rw [zz_le, z0, erI, es, Int.toNat_natCast]
            omega
          simp only [ff_L_near_j33, l1, se_l2, if_neg hn0, i_c hC, hrd, if_neg hn1, Option.bind_some]
        simp only [ff_L_near, i_c hC, c0, nr, Option.bind_some]
        by_cases hc : its ≤ wn k x y
        · rw [if_pos hc]
          rw [zz_le] at hc
          exact key _ (by rw [zz_s (by omega) (by omega)]; omega)
        · rw [if_neg hc]
          rw [zz_le] at hc
          exact key _ (by rw [zz_s (by omega) (by omega)]; omega)
    · rw [if_neg hlx] at c1 nr
      have hle : (-4 : Int32) ≤ wn k x y := by rw [zz_le, zm4]; omega
      have h4 : lx k x y ≠ -4 := by
        rw [Ne, zz_e, zm4]
        omega
      obtain ⟨a, z, l1, l2⟩ := l_nearl hC hI (x := x) (y := y) (w := wn k x y) (its := -4) (far := wn k x y - -4) (by omega) (Or.inl (by decide))
      simp (decide := true) only [ff_L_near, ff_L_near_j33, ff_L_near_j178, i_c hC, c0, nr, if_pos hle, l1, se_l2, c1, if_neg h4, Option.bind_some, if_true, if_false]
  · have c0 := r_cellN hC hi 0
    have c1 := r_cellN hC hi 1
    have nr := r_nearN hC hi
    obtain ⟨a, z, l1, l2⟩ := l_nearl hC hI (x := x) (y := y) (w := -1) (its := -1) (far := -1 - -1) (by decide) (Or.inl (by decide))
    simp (decide := true) only [ff_L_near, ff_L_near_j33, ff_L_near_j178, i_c hC, c0, nr, if_pos (show (-1 : Int32) ≤ -1 by decide), l1, se_l2, c1, Option.bind_some, if_true, if_false]
theorem lc_1 (hI : IP 2000 k) {x y : Int32} (hi : ins k x y) (hl : lx k x y = -1) (hn : nf k (wn k x y).toInt ≠ -1) : lc (pL k x y) = lc k + 1 := by
  have h := (pL_v hI hi hl hn).2.1
  have b : aL k ≤ 144 := aL_b
  have b0 : 0 ≤ aL k := aL_n
  rw [zz_e, zz_a (by rw [lc_i, z1]; omega) (by rw [lc_i, z1]; omega), lc_i, lc_i, z1, h]
theorem l_lays (hC : Ci M b k u pg tl tx) (hK : KJ N k u pg tl) {x y : Int32} (hi : ins k x y) : ∃ M' k' u' pg', ff_L_lays M b x y = some (1, M') ∧ Ci M' b k' u' pg' tl tx ∧ KJ N k' u' pg' tl := by
  have hI := hK.1.1
  have hw := wn_r hI.1 hI.2.1 hi
  have hl := lx_r hI.1 hI.2.1 hi
  obtain ⟨n1, n2, n3⟩ := nf_nb hI.2.2.1 (wn k x y).toInt
  have c1 := r_cell1 hC hI.1 hi
  have nr := r_near hC hI hi
  have c6 := r_c6 hC
  by_cases hg : lx k x y = -1 ∧ nf k (wn k x y).toInt ≠ -1
  · obtain ⟨hlx, hn⟩ := hg
    rw [if_pos hlx] at c1 nr
    rw [if_neg hn] at nr
    have es : (Int32.ofInt (nf k (wn k x y).toInt)).toInt = nf k (wn k x y).toInt := ofI n2 n3
    have hne := ofI_n n2 n3 hn
    obtain ⟨M1, e1, C1⟩ := w_lay hC hK.2.1 hI hi hlx hn
    have hl1 := pL_at hlx hn
    have P1 := JP_pL hK.1 hi
    have hi1 : ins (pL k x y) x y := ins_congr (pL_w (by omega) (by omega) (by omega) (by omega)) (pL_w (by omega) (by omega) (by omega) (by omega)) hi
    have d1 := r_cell1 C1 P1.1.1 hi1
    rw [hl1] at d1
    have d6 := r_c6 C1
    rw [lc_1 hI hi hlx hn] at d6
    have v := (pL_v hI hi hlx hn).1 (nf k (wn k x y).toInt).toNat (by omega)
    rw [if_pos rfl] at v
    generalize Int32.ofInt (nf k (wn k x y).toInt) = its at nr es hne e1 d1
    rw [if_neg hne] at d1
    have hits : its ≠ -4 := by rw [Ne, zz_e, zm4]; omega
    have r0 := r_ready hC hI.2.2.1 (x := its) (by rw [Ne, zz_e, zm1] at hne; omega)
    have r1 := r_ready C1 P1.1.2.2.1 (x := its) (by rw [Ne, zz_e, zm1] at hne; omega)
    have q0 := rdI_i hI.2.2.1 hI.2.2.2 (x := its) (by rw [Ne, zz_e, zm1] at hne; omega)
    have q1 := rdI_i P1.1.2.2.1 P1.1.2.2.2 (x := its) (by rw [Ne, zz_e, zm1] at hne; omega)
    have hb := rdI_b hI.2.2.1 hI.2.2.2 (s := its.toInt.toNat) (by rw [Ne, zz_e, zm1] at hne; omega)
    have hb1 := rdI_b P1.1.2.2.1 P1.1.2.2.2 (s := its.toInt.toNat) (by rw [Ne, zz_e, zm1] at hne; omega)
    rw [show (nf k (wn k x y).toInt).toNat = its.toInt.toNat by omega] at v
    have er : pL k x y (308 + its.toInt.toNat) + rdy (pL k x y) its 10 = (k (308 + its.toInt.toNat) + rdy k its 10) - 1 := by
      rw [zz_e, q1, zz_s (by rw [q0, z1]; omega) (by rw [q0, z1]; have := zz_r (k (308 + its.toInt.toNat) + rdy k its 10); omega), q0, z1, v]
    rw [er] at r1
    refine ⟨M1, pL k x y, uk u, pgk u k pg, ?_, C1, KJ_keep hK (Int.le_refl _) P1⟩
    simp (decide := true) only [ff_L_lays, ff_L_lays_j30, ff_L_lays_j49, i_c hC, nr, c6, if_neg hits, r0, c1, e1, mm_u2, i_c C1, d1, d6, r1, Option.bind_some, if_true, if_false]
  · have hg' : lx k x y ≠ -1 ∨ nf k (wn k x y).toInt = -1 := by
      by_cases h1 : lx k x y = -1
      · right
        exact Classical.byContradiction fun q => hg ⟨h1, q⟩
      · exact Or.inl h1
    have e1 := w_layS hC hI hi hg'
    have nr4 : ff_X6_nearest M b x y = some (-4) := by
      rw [nr]
      rcases hg' with q | q
      · rw [if_neg q]
      · rw [if_pos q]; split <;> rfl
    refine ⟨M, k, u, pg, ?_, hC, hK⟩
    simp (decide := true) only [ff_L_lays, ff_L_lays_j30, i_c hC, nr4, c6, c1, Option.bind_some, if_true, if_false]
    split <;> simp (decide := true) only [ff_L_lays_j49, i_c hC, e1, mm_u2, c6, Option.bind_some, if_true, if_false, ite_self]
theorem l_refuses (hC : Ci M b k u pg tl tx) (hI : IP 2000 k) : ff_L_refuses M b = some (1, M) := by
  have hp := hI.1
  have hr := hI.2.2.1
  have hp' := hp
  unfold Rp at hp'
  have nw : ¬ ins k (k 0) 0 := fun q => by unfold ins at q; omega
  have nh : ¬ ins k 0 (k 1) := fun q => by unfold ins at q; omega
  have i00 : ins k 0 0 := by unfold ins; rw [z0]; omega
  have nm : ¬ ins k (-1) 0 := fun q => by unfold ins at q; rw [zm1] at q; omega
  have ns : ¬ (0 ≤ (k 6).toInt ∧ (k 6).toInt < (k 6).toInt) := by omega
  have nm6 : ¬ (0 ≤ (-1 : Int32).toInt ∧ (-1 : Int32).toInt < (k 6).toInt) := by rw [zm1]; omega
  have f1 : ff_X6_floor M b 2 3 = some (-1, M) := w_floorI (Or.inl (by decide))
  have f2 : ff_X6_floor M b 3 13 = some (-1, M) := w_floorI (Or.inr (by decide))
  have f3 := w_sizeI hC (v := 4) (by decide)
  have f4 := w_lossI hC (v := 6) (by decide)
  have f5 : ff_X6_set M b 2 5 = some (-1, M) := w_setI
  have f6 : ff_X6_way M b 3 = some (-1, M) := w_wayI (by decide)
  have f7 := w_wantI hC (v := 0) (Or.inl nw)
  have f8 := w_wantI hC (x := 1) (y := 1) (v := 100) (Or.inr (by decide))
  have f9 := r_cellN hC nh 0
  have f10 := r_cell4 hC i00
  have f11 : ff_X6_count M b 27 = some (-1) := r_c27
  have f12 : ff_X6_count M b 17 = some (-1) := r_c17
  have f13 : ff_X6_shade M b (-1) = some (-1) := r_shadeN
  have f14 : ff_X6_strip M b 19 0 = some (-1, M) := w_stripI (Or.inl (by decide))
  have f15 : ff_X6_strip M b 20 100 = some (-1, M) := w_stripI (Or.inr (by decide))
  have f16 := w_flawI hC hr ns 0
  have f17 := w_flawI hC hr nm6 0
  have f18 := w_cutI hC hr ns
  have f19 := r_sN hC hr ns 0
  have f20 := w_layI hC nw
  have f21 := w_liftI hC nm
  have f22 := r_nearN hC nh
  have f23 : ff_X6_ready M b 100 = some (-1) := r_readyN (by decide)
  have f24 : ff_X6_lacks M b (-1) = some (-1) := r_lacksN (by decide)
  have f25 : ff_X6_stripFor M b 100 = some (-1) := r_stripForN (by decide)
  have f26 : ff_X6_type M b 31 = some (-1, M) := w_typeI (by decide)
  simp (decide := true) only [ff_L_refuses, ff_L_refuses_j301, i_c hC, r_c13 hC, r_c0 hC, r_c1 hC, r_c9 hC, f1, f2, f3, f4, f5, f6, f7, f8, f9, f10, f11, f12, f13, f14, f15, f16, f17, f18, f19, f20, f21, f22, f23, f24, f25, f26, mm_u2, Option.bind_some, if_true, if_false]
end LA
