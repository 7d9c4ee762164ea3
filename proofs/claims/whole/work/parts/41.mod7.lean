/-! accounts; whether the border meets, in the class and in the reference -/
section MG
variable {M : mm_M} {z y : Nat} {k m : Nat → Int32} {n : Int}
theorem m_account (h : Mo M y m) (R : PR k m) (hI : IP n k) {a : Int32} (h0 : 0 ≤ a.toInt) (h1 : a.toInt ≤ 6) : ff_X7_account M y a = some (if a = 0 then su (fun i => k (408 + 11 * i)) 10 else if a = 1 then su (fun i => k (408 + 11 * i) - k (410 + 11 * i)) 10 else if a = 2 then k 2 * su (fun s => k (308 + s)) 100 else if a = 3 then k 2 * lc k else k (5 + a.toInt.toNat)) := by
  have hp := hI.1
  have hr := hI.2.2.1
  have hrm := PR_Rs R hr
  have hs := hr.2.2.2
  obtain ⟨N, eN⟩ : ∃ N : Nat, (m 6).toInt = N := ⟨(m 6).toInt.toNat, by have := hrm.2.2.1; omega⟩
  have hN : N ≤ 10 := by have := hrm.2.2.1; omega
  have e6 := R.lo 6 (by omega)
  have l0 : ∀ i, i < 10 → m (408 + 11 * i) = k (408 + 11 * i) := fun i hi => R.hi _ (by omega) (by omega)
  have l2 : ∀ i, i < 10 → m (410 + 11 * i) = k (410 + 11 * i) := fun i hi => R.hi _ (by omega) (by omega)
  have := it_for (body := mm_u3 (ff_X7_account_l7 M y a)) (fun t => (su (fun i => k (408 + 11 * i)) t, su (fun i => k (408 + 11 * i) - k (410 + 11 * i)) t, nI t)) N (su (fun i => k (408 + 11 * i)) N, su (fun i => k (408 + 11 * i) - k (410 + 11 * i)) N, nI N) (by
    intro t ht
    have et := zz_nI t (by omega)
    show ff_X7_account_l7 M y a _ _ (nI t) = _
    simp only [ff_X7_account_l7, n_m h, q6 h, c_m h, of0 h (show t < 10 by omega), m_left h (show t < 10 by omega), Option.bind_some]
    rw [if_neg (by rw [zz_le]; omega), nI_1, l0 t (by omega), l2 t (by omega)]
    rfl) (by
    have et := zz_nI N (by omega)
    show ff_X7_account_l7 M y a _ _ (nI N) = _
    simp only [ff_X7_account_l7, n_m h, q6 h, Option.bind_some]
    rw [if_pos (by rw [zz_le]; omega)]) mm_fu (mm_fu_gt (by omega))
  have z : ∀ i, N ≤ i → i < 10 → k (408 + 11 * i) = 0 ∧ k (408 + 11 * i) - k (410 + 11 * i) = 0 := by
    intro i i1 i2
    have q := hs i i2
    rw [← e6] at q
    have q1 : k (408 + 11 * i) = 0 := by rw [zz_e, z0]; omega
    have q2 : k (410 + 11 * i) = 0 := by rw [zz_e, z0]; omega
    exact ⟨q1, by rw [q1, q2]; rfl⟩
  have eh : su (fun s => m (308 + s)) 100 = su (fun s => k (308 + s)) 100 := su_congr (fun s hs => R.hi _ (by omega) (by omega))
  rw [← su_cut (n := N) (m := 10) (f := fun i => k (408 + 11 * i)) hN (fun i i1 i2 => (z i i1 i2).1), ← su_cut (n := N) (m := 10) (f := fun i => k (408 + 11 * i) - k (410 + 11 * i)) hN (fun i i1 i2 => (z i i1 i2).2)] at this
  simp only [ff_X7_account, show mm_it (mm_u3 (ff_X7_account_l7 M y a)) mm_fu ((0 : Int32), (0 : Int32), (0 : Int32)) = _ from this, Option.bind_some, mm_u3, n_m h, q2 h, c_m h, m_sumH h, m_laid h (PR_Rp R hp), PR_lc R hp hI.2.1, eh, R.lo 2 (show 2 < 12 by omega)]
  by_cases c0 : a = 0
  · rw [if_pos c0, if_pos c0]
  · rw [if_neg c0, if_neg c0]
    by_cases c1 : a = 1
    · rw [if_pos c1, if_pos c1]
    · rw [if_neg c1, if_neg c1]
      by_cases c2 : a = 2
      · rw [if_pos c2, if_pos c2]
      · rw [if_neg c2, if_neg c2]
        by_cases c3 : a = 3
        · rw [if_pos c3, if_pos c3]
        · rw [if_neg c3, if_neg c3]
          rw [zz_e, z0] at c0
          rw [zz_e, z1] at c1
          rw [zz_e, z2] at c2
          rw [zz_e, z3] at c3
          have e9 : (9 + a).toInt = 9 + a.toInt := by rw [zz_a (by rw [z9]; omega) (by rw [z9]; omega), z9]
          have e5 : (9 + a - 4).toInt = ((5 + a.toInt.toNat : Nat) : Int) := by rw [zz_s (by rw [z4]; omega) (by rw [z4]; omega), z4, e9]; omega
          rw [q_m h e5 (by omega), Option.bind_some, R.lo _ (by omega)]
/-- the border meets -/
def ME (k : Nat → Int32) : Prop := (∀ j : Nat, (j : Int) < (k 4).toInt → k (12 + j) = k 12) ∨ ∀ j : Nat, (j : Int) < 2 * ((k 0).toInt + (k 1).toInt - 2) → bw k j ≠ bw k (if j = 0 then 2 * ((k 0).toInt + (k 1).toInt - 2) - 1 else (j : Int) - 1)
theorem p_one (h : St M z k) (hp : Rp k) : (ff_X1_patternHasOneShade M (z + 1) = some 1 ∧ ∀ j : Nat, (j : Int) < (k 4).toInt → k (12 + j) = k 12) ∨ (ff_X1_patternHasOneShade M (z + 1) = some 0 ∧ ¬ ∀ j : Nat, (j : Int) < (k 4).toInt → k (12 + j) = k 12) := by
  have hp' := hp
  unfold Rp at hp'
  obtain ⟨L, eL⟩ : ∃ L : Nat, (k 4).toInt = L + 1 := ⟨(k 4).toInt.toNat - 1, by omega⟩
  have p0 := p_pat h hp (n := 0) (by decide)
  have p00 : ((0 : Int32).toInt % (k 4).toInt).toNat = 0 := by rw [z0, Int.zero_emod]; rfl
  rw [p00, Nat.add_zero] at p0
  obtain ⟨e, g1, g2⟩ := it_inv (body := mm_u1 (ff_X1_patternHasOneShade_l2 M (z + 1))) (fun t (s : Int32) => s = nI (t + 1) ∧ ∀ j : Nat, j < t + 1 → k (12 + j) = k 12) (fun e => ((∃ x, e = .inl x) ∧ ∀ j : Nat, (j : Int) < (k 4).toInt → k (12 + j) = k 12) ∨ (e = .inr 0 ∧ ¬ ∀ j : Nat, (j : Int) < (k 4).toInt → k (12 + j) = k 12)) L (by
      rintro t s ht ⟨rfl, hj⟩
      have et := zz_nI (t + 1) (by omega)
      have pt := p_pat h hp (n := nI (t + 1)) (by omega)
      have e2 : ((nI (t + 1)).toInt % (k 4).toInt).toNat = t + 1 := by rw [et, Int.emod_eq_of_lt (by omega) (by omega)]; omega
      rw [e2] at pt
      show (∃ s', ff_X1_patternHasOneShade_l2 M (z + 1) (nI (t + 1)) = _ ∧ _) ∨ (∃ e, ff_X1_patternHasOneShade_l2 M (z + 1) (nI (t + 1)) = _ ∧ _)
      simp only [ff_X1_patternHasOneShade_l2, g_p2 h, c_p h, pt, p0, Option.bind_some]
      rw [if_neg (by rw [zz_le]; omega), nI_1]
      by_cases hc : k (12 + (t + 1)) = k 12
      · rw [if_pos hc]
        exact Or.inl ⟨_, rfl, rfl, fun j hj2 => by
          by_cases hjt : j = t + 1
          · rw [hjt]; exact hc
          · exact hj j (by omega)⟩
      · rw [if_neg hc]
        exact Or.inr ⟨_, rfl, Or.inr ⟨rfl, fun q => hc (q (t + 1) (by omega))⟩⟩) (by
      rintro s ⟨rfl, hj⟩
      have et := zz_nI (L + 1) (by omega)
      refine ⟨.inl (nI (L + 1)), ?_, Or.inl ⟨⟨_, rfl⟩, fun j hj2 => hj j (by omega)⟩⟩
      show ff_X1_patternHasOneShade_l2 M (z + 1) (nI (L + 1)) = _
      simp only [ff_X1_patternHasOneShade_l2, g_p2 h, Option.bind_some]
      rw [if_pos (by rw [zz_le]; omega)]) (1 : Int32) mm_fu (mm_fu_gt (by omega)) ⟨rfl, fun j hj => by rw [show j = 0 by omega]⟩
  simp only [ff_X1_patternHasOneShade, g1, Option.bind_some]
  rcases g2 with ⟨⟨x, rfl⟩, g3⟩ | ⟨rfl, g3⟩
  · exact Or.inl ⟨rfl, g3⟩
  · exact Or.inr ⟨rfl, g3⟩
theorem p_meets (h : St M z k) (hp : Rp k) : (ff_X1_borderMeets M (z + 1) = some 1 ∧ ME k) ∨ (ff_X1_borderMeets M (z + 1) = some 0 ∧ ¬ ME k) := by
  have hp' := hp
  unfold Rp at hp'
  rcases p_one h hp with ⟨o1, o2⟩ | ⟨o1, o2⟩
  · simp only [ff_X1_borderMeets, c_p h, o1, Option.bind_some]
    exact Or.inl ⟨by rw [if_neg (by decide)], Or.inl o2⟩
  · simp only [ff_X1_borderMeets, c_p h, o1, p_cells h, Option.bind_some]
    rw [if_pos trivial]
    have eN := hB_2 hp
    have e1 : (2 * hB k - 1).toInt = 2 * ((k 0).toInt + (k 1).toInt - 2) - 1 := by rw [zz_s (by rw [z1]; omega) (by rw [z1]; omega), z1, eN]
    rw [p_wb h hp (by omega) (by omega), Option.bind_some, e1]
    obtain ⟨N, hN⟩ : ∃ N : Nat, 2 * ((k 0).toInt + (k 1).toInt - 2) = N := ⟨(2 * ((k 0).toInt + (k 1).toInt - 2)).toNat, by omega⟩
    have hME : ME k ↔ ∀ j : Nat, j < N → bw k j ≠ bw k (if j = 0 then (N : Int) - 1 else (j : Int) - 1) := by
      unfold ME
      rw [hN]
      constructor
      · rintro (q | q)
        · exact absurd q o2
        · exact fun j hj => q j (by omega)
      · exact fun q => Or.inr (fun j hj => q j (by omega))
    rw [hN] at eN ⊢
    obtain ⟨e, g1, g2⟩ := it_inv (body := mm_u2 (ff_X1_borderMeets_l22 M (z + 1))) (fun t (s : Int32 × Int32) => s = (bw k (if t = 0 then (N : Int) - 1 else (t : Int) - 1), nI t) ∧ ∀ j : Nat, j < t → bw k j ≠ bw k (if j = 0 then (N : Int) - 1 else (j : Int) - 1)) (fun e => ((∃ x, e = .inl x) ∧ ME k) ∨ (e = .inr 0 ∧ ¬ ME k)) N (by
        rintro t s ht ⟨rfl, hj⟩
        have et := zz_nI t (by omega)
        have pt := p_wb h hp (n := nI t) (by omega) (by omega)
        rw [et] at pt
        show (∃ s', ff_X1_borderMeets_l22 M (z + 1) _ (nI t) = _ ∧ _) ∨ (∃ e, ff_X1_borderMeets_l22 M (z + 1) _ (nI t) = _ ∧ _)
        simp only [ff_X1_borderMeets_l22, c_p h, p_cells h, pt, Option.bind_some]
        rw [if_neg (by rw [zz_le]; omega), nI_1]
        by_cases hc : bw k t = bw k (if t = 0 then (N : Int) - 1 else (t : Int) - 1)
        · rw [if_pos hc]
          exact Or.inr ⟨_, rfl, Or.inr ⟨rfl, fun q => hME.mp q t ht hc⟩⟩
        · rw [if_neg hc]
          refine Or.inl ⟨_, rfl, ?_, fun j hj2 => ?_⟩
          · rw [if_neg (by omega)]
            congr 2
            omega
          · by_cases hjt : j = t
            · rw [hjt]; exact hc
            · exact hj j (by omega)) (by
        rintro s ⟨rfl, hj⟩
        have et := zz_nI N (by omega)
        refine ⟨.inl (bw k (if N = 0 then (N : Int) - 1 else (N : Int) - 1), nI N), ?_, Or.inl ⟨⟨_, rfl⟩, hME.mpr hj⟩⟩
        show ff_X1_borderMeets_l22 M (z + 1) _ (nI N) = _
        simp only [ff_X1_borderMeets_l22, c_p h, p_cells h, Option.bind_some]
        rw [if_pos (by rw [zz_le]; omega)]) (bw k ((N : Int) - 1), (0 : Int32)) mm_fu (mm_fu_gt (by omega)) ⟨rfl, fun j hj => by omega⟩
    simp only [g1, Option.bind_some]
    rcases g2 with ⟨⟨x, rfl⟩, g3⟩ | ⟨rfl, g3⟩
    · exact Or.inl ⟨rfl, g3⟩
    · exact Or.inr ⟨rfl, g3⟩
theorem m_meets (h : Mo M y m) (R : PR k m) (hp : Rp k) : (ff_X7_meets M y = some 1 ∧ ME k) ∨ (ff_X7_meets M y = some 0 ∧ ¬ ME k) := by
  have hp' := hp
  unfold Rp at hp'
  have hpm := PR_Rp R hp
  obtain ⟨L, eL⟩ : ∃ L : Nat, (k 4).toInt = L + 1 := ⟨(k 4).toInt.toNat - 1, by omega⟩
  have e4 := R.lo 4 (by omega)
  have pt : ∀ j : Nat, j < L + 1 → m (12 + j) = k (12 + j) := fun j hj => R.pt j (by omega)
  have p0 : m 12 = k 12 := pt 0 (by omega)
  -- one shade
  obtain ⟨e, g1, b, rfl, g2⟩ := it_inv (body := mm_u2 (ff_X7_meets_l4 M y)) (fun t (s : Int32 × Int32) => ∃ b : Int32, s = (b, nI (t + 1)) ∧ ((b = 1 ∧ ∀ j : Nat, j < t + 1 → k (12 + j) = k 12) ∨ (b = 0 ∧ ¬ ∀ j : Nat, j < t + 1 → k (12 + j) = k 12))) (fun e => ∃ b : Int32, e = (b, nI (L + 1)) ∧ ((b = 1 ∧ ∀ j : Nat, j < L + 1 → k (12 + j) = k 12) ∨ (b = 0 ∧ ¬ ∀ j : Nat, j < L + 1 → k (12 + j) = k 12))) L (by
      rintro t s ht ⟨b, rfl, hb⟩
      refine Or.inl ?_
      have et := zz_nI (t + 1) (by omega)
      show ∃ s', ff_X7_meets_l4 M y b (nI (t + 1)) = _ ∧ _
      simp only [ff_X7_meets_l4, ff_X7_meets_j41, ff_X7_meets_j42, n_m h, q4 h, q12 h, q_m h (ixm 12 12 z12 (by omega) (n := t + 1) (by omega)) (show 12 + (t + 1) < 518 by omega), Option.bind_some]
      rw [if_neg (by rw [zz_le, e4]; omega), nI_1, pt (t + 1) (by omega), p0]
      rcases hb with ⟨rfl, hb⟩ | ⟨rfl, hb⟩
      · rw [if_neg (by decide)]
        by_cases hc : k (12 + (t + 1)) = k 12
        · rw [if_pos hc]
          refine ⟨_, rfl, 1, rfl, Or.inl ⟨rfl, fun j hj => ?_⟩⟩
          by_cases hjt : j = t + 1
          · rw [hjt]; exact hc
          · exact hb j (by omega)
        · rw [if_neg hc]
          exact ⟨_, rfl, 0, rfl, Or.inr ⟨rfl, fun q => hc (q (t + 1) (by omega))⟩⟩
      · rw [if_pos rfl]
        exact ⟨_, rfl, 0, rfl, Or.inr ⟨rfl, fun q => hb (fun j hj => q j (by omega))⟩⟩) (by
      rintro s ⟨b, rfl, hb⟩
      have et := zz_nI (L + 1) (by omega)
      refine ⟨_, ?_, b, rfl, hb⟩
      show ff_X7_meets_l4 M y b (nI (L + 1)) = _
      simp only [ff_X7_meets_l4, n_m h, q4 h, Option.bind_some]
      rw [if_pos (by rw [zz_le, e4]; omega)]) ((1 : Int32), (1 : Int32)) mm_fu (mm_fu_gt (by omega)) ⟨1, rfl, Or.inl ⟨rfl, fun j hj => by rw [show j = 0 by omega]⟩⟩
  -- neighbours
  have ear := m_ar hpm
  rw [R.lo 0 (by omega), R.lo 1 (by omega)] at ear
  obtain ⟨N, hN⟩ : ∃ N : Nat, 2 * ((k 0).toInt + (k 1).toInt - 2) = N := ⟨(2 * ((k 0).toInt + (k 1).toInt - 2)).toNat, by omega⟩
  have ebw : ∀ v : Int32, 0 ≤ v.toInt → v.toInt < N → ff_X7_borderWants M y v = some (bw k v.toInt) := by
    intro v v1 v2
    rw [m_bw h hpm v1 (by rw [R.lo 0 (by omega), R.lo 1 (by omega)]; omega), PR_bw R hp v1 (by omega)]
  have ea : ff_X7_around M y = some (2 * (k 0 + k 1) - 4) := by rw [m_around h, R.lo 0 (by omega), R.lo 1 (by omega)]
  rw [hN] at ear
  generalize 2 * (k 0 + k 1) - 4 = AR at *
  obtain ⟨e, f1, c, rfl, f2⟩ := it_inv (body := mm_u2 (ff_X7_meets_l53 M y b)) (fun t (s : Int32 × Int32) => ∃ c : Int32, s = (c, nI t) ∧ ((c = 1 ∧ ∀ j : Nat, j < t → bw k j ≠ bw k (if j + 1 = N then 0 else (j : Int) + 1)) ∨ (c = 0 ∧ ¬ ∀ j : Nat, j < t → bw k j ≠ bw k (if j + 1 = N then 0 else (j : Int) + 1)))) (fun e => ∃ c : Int32, e = (c, nI N) ∧ ((c = 1 ∧ ∀ j : Nat, j < N → bw k j ≠ bw k (if j + 1 = N then 0 else (j : Int) + 1)) ∨ (c = 0 ∧ ¬ ∀ j : Nat, j < N → bw k j ≠ bw k (if j + 1 = N then 0 else (j : Int) + 1)))) N (by
      rintro t s ht ⟨c, rfl, hc⟩
      refine Or.inl ?_
      have et := zz_nI t (by omega)
      have et1 := zz_nI (t + 1) (by omega)
      have b1 := ebw (nI t) (by omega) (by omega)
      rw [et] at b1
      have er : mm_rm (nI t + 1) AR = some ((nI t + 1) - (nI t + 1) / AR * AR) := zz_rm (by omega)
      have er2 : ((nI t + 1) - (nI t + 1) / AR * AR).toInt = (if t + 1 = N then 0 else (t : Int) + 1) := by
        rw [nI_1, zz_rem (by omega) (by omega), et1, ear]
        split
        · rename_i q
          rw [q, Int.emod_self]
        · rw [Int.emod_eq_of_lt (by omega) (by omega)]; omega
      have b2 := ebw ((nI t + 1) - (nI t + 1) / AR * AR) (by rw [er2]; split <;> omega) (by rw [er2]; split <;> omega)
      rw [er2] at b2
      show ∃ s', ff_X7_meets_l53 M y b c (nI t) = _ ∧ _
      simp only [ff_X7_meets_l53, ff_X7_meets_j89, ff_X7_meets_j90, c_m h, ea, b1, er, b2, Option.bind_some]
      rw [if_neg (by rw [zz_le]; omega), nI_1]
      rcases hc with ⟨rfl, hc⟩ | ⟨rfl, hc⟩
      · rw [if_neg (by decide)]
        by_cases hq : bw k t = bw k (if t + 1 = N then 0 else (t : Int) + 1)
        · rw [if_pos hq]
          exact ⟨_, rfl, 0, rfl, Or.inr ⟨rfl, fun q => q t (by omega) hq⟩⟩
        · rw [if_neg hq]
          refine ⟨_, rfl, 1, rfl, Or.inl ⟨rfl, fun j hj => ?_⟩⟩
          by_cases hjt : j = t
          · rw [hjt]; exact hq
          · exact hc j (by omega)
      · rw [if_pos rfl]
        exact ⟨_, rfl, 0, rfl, Or.inr ⟨rfl, fun q => hc (fun j hj => q j (by omega))⟩⟩) (by
      rintro s ⟨c, rfl, hc⟩
      have et := zz_nI N (by omega)
      refine ⟨_, ?_, c, rfl, hc⟩
      show ff_X7_meets_l53 M y b c (nI N) = _
      simp only [ff_X7_meets_l53, c_m h, ea, Option.bind_some]
      rw [if_pos (by rw [zz_le]; omega)]) ((1 : Int32), (0 : Int32)) mm_fu (mm_fu_gt (by omega)) ⟨1, rfl, Or.inl ⟨rfl, fun j hj => by omega⟩⟩
  have hsh : (∀ j : Nat, j < N → bw k j ≠ bw k (if j + 1 = N then 0 else (j : Int) + 1)) ↔ ∀ j : Nat, j < N → bw k j ≠ bw k (if j = 0 then (N : Int) - 1 else (j : Int) - 1) := by
    constructor
    · intro q j hj he
      by_cases hj0 : j = 0
      · subst hj0
        rw [if_pos rfl] at he
        refine q (N - 1) (by omega) ?_
        rw [if_pos (by omega), show ((N - 1 : Nat) : Int) = (N : Int) - 1 by omega]
        exact he.symm
      · rw [if_neg hj0] at he
        refine q (j - 1) (by omega) ?_
        rw [if_neg (by omega), show ((j - 1 : Nat) : Int) = (j : Int) - 1 by omega, show (j : Int) - 1 + 1 = j by omega]
        exact he.symm
    · intro q j hj he
      by_cases hj0 : j + 1 = N
      · rw [if_pos hj0] at he
        refine q 0 (by omega) ?_
        rw [if_pos rfl, show (N : Int) - 1 = j by omega]
        exact he.symm
      · rw [if_neg hj0] at he
        refine q (j + 1) (by omega) ?_
        rw [if_neg (by omega), show ((j + 1 : Nat) : Int) - 1 = j by omega, show ((j + 1 : Nat) : Int) = (j : Int) + 1 by omega]
        exact he.symm
  have hME : ME k ↔ (∀ j : Nat, j < L + 1 → k (12 + j) = k 12) ∨ ∀ j : Nat, j < N → bw k j ≠ bw k (if j + 1 = N then 0 else (j : Int) + 1) := by
    rw [hsh]
    unfold ME
    rw [hN, eL]
    constructor
    · rintro (q | q)
      · exact Or.inl (fun j hj => q j (by omega))
      · exact Or.inr (fun j hj => q j (by omega))
    · rintro (q | q)
      · exact Or.inl (fun j hj => q j (by omega))
      · exact Or.inr (fun j hj => q j (by omega))
  simp only [ff_X7_meets, g1, Option.bind_some, mm_u2, ff_X7_meets_j105]
  rw [f1]
  simp only [Option.bind_some]
  rw [hME]
  rcases g2 with ⟨rfl, g2⟩ | ⟨rfl, g2⟩
  · rw [if_neg (by decide)]
    exact Or.inl ⟨rfl, Or.inl g2⟩
  · rw [if_pos rfl]
    rcases f2 with ⟨rfl, f2⟩ | ⟨rfl, f2⟩
    · rw [if_neg (by decide)]
      exact Or.inl ⟨rfl, Or.inr f2⟩
    · rw [if_pos rfl]
      refine Or.inr ⟨rfl, ?_⟩
      rintro (q | q)
      · exact g2 q
      · exact f2 q
end MG
