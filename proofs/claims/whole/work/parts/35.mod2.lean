/-! the reference's strips -/
theorem z11 : (11 : Int32).toInt = 11 := rfl
theorem z408 : (408 : Int32).toInt = 408 := rfl
section MS
variable {M : mm_M} {y : Nat} {m : Nat → Int32}
theorem oix {i : Nat} (hi : i < 10) {w : Int32} {W : Nat} (hw : w.toInt = W) (hW : W ≤ 10) : (408 + 11 * nI i + w).toInt = ((408 + 11 * i + W : Nat) : Int) := by
  have e := zz_nI i (by omega)
  have e1 : (11 * nI i).toInt = 11 * i := by rw [zz_m (by rw [z11]; omega) (by rw [z11]; omega), z11, e]
  have e2 : (408 + 11 * nI i).toInt = 408 + 11 * i := by rw [zz_a (by rw [z408]; omega) (by rw [z408]; omega), z408, e1]
  rw [zz_a (by omega) (by omega), e2, hw]
  omega
theorem m_of (h : Mo M y m) {i : Nat} (hi : i < 10) {w : Int32} {W : Nat} (hw : w.toInt = W) (hW : W ≤ 10) : ff_X7_of M y (nI i) w = some (m (408 + 11 * i + W)) := by
  simp only [ff_X7_of, n_m h, q_m h (oix hi hw hW) (by omega), Option.bind_some]
theorem ix8 (i W : Nat) : 408 + 11 * i + W = (408 + W) + 11 * i := by omega
theorem of0 (h : Mo M y m) {i : Nat} (hi : i < 10) : ff_X7_of M y (nI i) 0 = some (m (408 + 11 * i)) := m_of h hi (W := 0) rfl (by omega)
theorem of1 (h : Mo M y m) {i : Nat} (hi : i < 10) : ff_X7_of M y (nI i) 1 = some (m (409 + 11 * i)) := by rw [m_of h hi (W := 1) rfl (by omega), ix8]
theorem of2 (h : Mo M y m) {i : Nat} (hi : i < 10) : ff_X7_of M y (nI i) 2 = some (m (410 + 11 * i)) := by rw [m_of h hi (W := 2) rfl (by omega), ix8]
theorem of3 (h : Mo M y m) {i : Nat} (hi : i < 10) : ff_X7_of M y (nI i) 3 = some (m (411 + 11 * i)) := by rw [m_of h hi (W := 3) rfl (by omega), ix8]
theorem of4 (h : Mo M y m) {i : Nat} (hi : i < 10) : ff_X7_of M y (nI i) 4 = some (m (412 + 11 * i)) := by rw [m_of h hi (W := 4) rfl (by omega), ix8]
theorem m_put (h : Mo M y m) {i : Nat} (hi : i < 10) {w : Int32} {W : Nat} (hw : w.toInt = W) (hW : W ≤ 10) (v : Int32) : ff_X7_put M y (nI i) w v = some (wm M y (upd m (408 + 11 * i + W) v)) := by
  simp only [ff_X7_put, n_m h, s_m h (oix hi hw hW) (by omega), Option.bind_some]
theorem pu0 (h : Mo M y m) {i : Nat} (hi : i < 10) (v : Int32) : ff_X7_put M y (nI i) 0 v = some (wm M y (upd m (408 + 11 * i) v)) := m_put h hi (W := 0) rfl (by omega) v
theorem pu1 (h : Mo M y m) {i : Nat} (hi : i < 10) (v : Int32) : ff_X7_put M y (nI i) 1 v = some (wm M y (upd m (409 + 11 * i) v)) := by rw [m_put h hi (W := 1) rfl (by omega), ix8]
theorem pu2 (h : Mo M y m) {i : Nat} (hi : i < 10) (v : Int32) : ff_X7_put M y (nI i) 2 v = some (wm M y (upd m (410 + 11 * i) v)) := by rw [m_put h hi (W := 2) rfl (by omega), ix8]
theorem pu3 (h : Mo M y m) {i : Nat} (hi : i < 10) (v : Int32) : ff_X7_put M y (nI i) 3 v = some (wm M y (upd m (411 + 11 * i) v)) := by rw [m_put h hi (W := 3) rfl (by omega), ix8]
theorem pu4 (h : Mo M y m) {i : Nat} (hi : i < 10) (v : Int32) : ff_X7_put M y (nI i) 4 v = some (wm M y (upd m (412 + 11 * i) v)) := by rw [m_put h hi (W := 4) rfl (by omega), ix8]
theorem m_left (h : Mo M y m) {i : Nat} (hi : i < 10) : ff_X7_left M y (nI i) = some (m (408 + 11 * i) - m (410 + 11 * i)) := by
  simp only [ff_X7_left, c_m h, of0 h hi, of2 h hi, Option.bind_some]
theorem m_isS (h : Mo M y m) (hr : Rs m) (a : Int32) : ff_X7_isStrip M y a = some (if 0 ≤ a.toInt ∧ a.toInt < (m 6).toInt then 1 else 0) := by
  have h6 := hr.2.2.1
  have e1 : (m 6 - 1).toInt = (m 6).toInt - 1 := zz_s (by rw [z1]; omega) (by rw [z1]; omega)
  simp only [ff_X7_isStrip, n_m h, q6 h, m_in, e1, z0, Option.bind_some]
  by_cases c : 0 ≤ a.toInt ∧ a.toInt < (m 6).toInt
  · rw [if_pos (show 0 ≤ a.toInt ∧ a.toInt ≤ (m 6).toInt - 1 by omega), if_pos c, zz_bz1, Option.bind_some]
  · rw [if_neg (show ¬ (0 ≤ a.toInt ∧ a.toInt ≤ (m 6).toInt - 1) by omega), if_neg c, zz_bz0, Option.bind_some]
def hn (k : Nat → Int32) (i : Nat) (a b : Int) (t : Nat) : Bool := (List.range t).any fun j => decide (a ≤ (k (413 + 11 * i + j)).toInt ∧ (k (413 + 11 * i + j)).toInt < b)
theorem hn_s (k : Nat → Int32) (i : Nat) (a b : Int) (t : Nat) : hn k i a b (t + 1) = (hn k i a b t || decide (a ≤ (k (413 + 11 * i + t)).toInt ∧ (k (413 + 11 * i + t)).toInt < b)) := by
  unfold hn
  rw [List.range_succ, List.any_append]
  simp
theorem m_hf (h : Mo M y m) (hr : Rs m) {i : Nat} (hi : i < 10) (a b : Int32) (hb : -2147483648 < b.toInt) : ff_X7_hasFlaw M y (nI i) a b = some (if hf m i a.toInt b.toInt then 1 else 0) := by
  obtain ⟨-, -, -, hs⟩ := hr
  obtain ⟨-, -, -, hf6, -⟩ := hs i hi
  obtain ⟨n, en⟩ : ∃ n : Nat, (m (411 + 11 * i)).toInt = n := ⟨(m (411 + 11 * i)).toInt.toNat, by omega⟩
  have eb := zz_r b
  have e1 : (b - 1).toInt = b.toInt - 1 := zz_s (by rw [z1]; omega) (by rw [z1]; omega)
  have := it_for (body := mm_u2 (ff_X7_hasFlaw_l6 M y (nI i) a b)) (fun t => ((if hn m i a.toInt b.toInt t then (1 : Int32) else 0), nI t)) n ((if hn m i a.toInt b.toInt n then (1 : Int32) else 0), nI n) (by
    intro t ht
    have et := zz_nI t (by omega)
    show ff_X7_hasFlaw_l6 M y (nI i) a b _ _ = _
    have e5 : (5 + nI t).toInt = ((5 + t : Nat) : Int) := ixm 5 5 rfl (by omega) (by omega)
    simp only [ff_X7_hasFlaw_l6, ff_X7_hasFlaw_j41, ff_X7_hasFlaw_j46, c_m h, of3 h hi, m_of h hi e5 (by omega), m_in, e1, Option.bind_some]
    rw [if_neg (by rw [zz_le]; omega), nI_1, hn_s]
    have ej : 408 + 11 * i + (5 + t) = 413 + 11 * i + t := by omega
    rw [ej]
    cases hh : hn m i a.toInt b.toInt t with
    | true => rfl
    | false =>
      by_cases hc : a.toInt ≤ (m (413 + 11 * i + t)).toInt ∧ (m (413 + 11 * i + t)).toInt < b.toInt
      · rw [if_pos (show a.toInt ≤ (m (413 + 11 * i + t)).toInt ∧ (m (413 + 11 * i + t)).toInt ≤ b.toInt - 1 by omega), decide_eq_true hc]
        rfl
      · rw [if_neg (show ¬ (a.toInt ≤ (m (413 + 11 * i + t)).toInt ∧ (m (413 + 11 * i + t)).toInt ≤ b.toInt - 1) by omega), decide_eq_false hc]
        rfl) (by
    have et := zz_nI n (by omega)
    show ff_X7_hasFlaw_l6 M y (nI i) a b _ _ = _
    simp only [ff_X7_hasFlaw_l6, c_m h, of3 h hi, Option.bind_some]
    rw [if_pos (by rw [zz_le]; omega)]) mm_fu (mm_fu_gt (by omega))
  rw [show ((if hn m i a.toInt b.toInt 0 then (1 : Int32) else 0), nI 0) = ((0 : Int32), (0 : Int32)) from rfl] at this
  simp only [ff_X7_hasFlaw, this, Option.bind_some, mm_u2]
  have e : hf m i a.toInt b.toInt = hn m i a.toInt b.toInt n := by unfold hf hn; rw [en]; rfl
  rw [e]
  cases hn m i a.toInt b.toInt n with
  | true => rfl
  | false => rfl
theorem m_can (h : Mo M y m) (hr : Rs m) {i : Nat} (hi : i < 10) : ff_X7_canCut M y (nI i) = some (if 0 < ta m i then 1 else 0) := by
  have h0 := ta_iff hr (i := i) 0
  have e0 : tp m i 0 = (m (410 + 11 * i)).toInt := by unfold tp; simp
  rw [e0] at h0
  have hs := hr.2.2.2 i hi
  have e2 : (m (408 + 11 * i) - m (410 + 11 * i)).toInt = (m (408 + 11 * i)).toInt - (m (410 + 11 * i)).toInt := zz_s (by omega) (by omega)
  simp only [ff_X7_canCut, c_m h, m_left h hi, n_m h, q2 h, Option.bind_some, zz_lt, e2]
  by_cases c : 0 < ta m i
  · have := h0.mp c
    rw [if_neg (by omega), if_pos c]
  · have : ¬ (m (410 + 11 * i)).toInt + (m 2).toInt ≤ (m (408 + 11 * i)).toInt := fun q => c (h0.mpr q)
    rw [if_pos (by omega), if_neg c]
theorem m_still (h : Mo M y m) (hr : Rs m) {i : Nat} (hi : i < 10) (g : Bool) : ff_X7_still M y (nI i) (if g then 1 else 0) = some (nI (if g then ga m i else ta m i)) := by
  have hr' := hr
  have hle := ta_le hr hi
  have hiff := fun t => ta_iff hr (i := i) t
  obtain ⟨h2, h3, h6, hs⟩ := hr
  have hsi := hs i hi
  have e1 : (m 2 + m 3).toInt = (m 2).toInt + (m 3).toInt := zz_a (by omega) (by omega)
  have := it_for (body := mm_u2 (ff_X7_still_l10 M y (nI i) (if g then 1 else 0))) (fun t => (nI (if g then cn (tg m i) t else t), Int32.ofInt (tp m i t))) (ta m i) (nI (if g then ga m i else ta m i), Int32.ofInt (tp m i (ta m i))) (by
    intro t ht
    have hcl := cn_le (tg m i) t
    obtain ⟨t1, t2, t3⟩ := tp_r hr' hi (Nat.le_of_lt ht)
    have t4 := (hiff t).mp ht
    have ep : (Int32.ofInt (tp m i t)).toInt = tp m i t := by rw [Int32.toInt_ofInt]; exact zz_bm (by omega) (by omega)
    have ep2 : (Int32.ofInt (tp m i t) + m 2).toInt = tp m i t + (m 2).toInt := by rw [zz_a (by omega) (by omega), ep]
    have en : Int32.ofInt (tp m i t) + (m 2 + m 3) = Int32.ofInt (tp m i (t + 1)) := by
      rw [zz_e, zz_a (by omega) (by omega), ep, e1, Int32.toInt_ofInt, zz_bm (by rw [tp_s]; omega) (by rw [tp_s]; omega), tp_s]
    show ff_X7_still_l10 M y (nI i) _ _ _ = _
    simp only [ff_X7_still_l10, ff_X7_still_j56, ff_X7_still_j57, n_m h, q2 h, q3 h, c_m h, of0 h hi, m_hf h hr' hi _ _ (show -2147483648 < (Int32.ofInt (tp m i t) + m 2).toInt by omega), Option.bind_some]
    rw [if_neg (by rw [zz_lt, ep2]; omega), ep, ep2, en]
    cases g with
    | false =>
      rw [if_pos (by decide)]
      simp [nI_1]
    | true =>
      rw [if_neg (by decide)]
      show _ = some (Sum.inl (nI (cn (tg m i) t + (if tg m i t then 1 else 0)), _))
      by_cases hg : hf m i (tp m i t) (tp m i t + (m 2).toInt) = true
      · have : tg m i t = false := by simp [tg, hg]
        rw [hg, this]
        simp
      · have hg2 : hf m i (tp m i t) (tp m i t + (m 2).toInt) = false := by simpa using hg
        have : tg m i t = true := by simp [tg, hg2]
        rw [hg2, this]
        simp [nI_1]) (by
    obtain ⟨t1, t2, t3⟩ := tp_r hr' hi (Nat.le_refl (ta m i))
    have t4 : ¬ tp m i (ta m i) + (m 2).toInt ≤ (m (408 + 11 * i)).toInt := fun q => Nat.lt_irrefl _ ((hiff (ta m i)).mpr q)
    have ep : (Int32.ofInt (tp m i (ta m i))).toInt = tp m i (ta m i) := by rw [Int32.toInt_ofInt]; exact zz_bm (by omega) (by omega)
    have ep2 : (Int32.ofInt (tp m i (ta m i)) + m 2).toInt = tp m i (ta m i) + (m 2).toInt := by rw [zz_a (by omega) (by omega), ep]
    show ff_X7_still_l10 M y (nI i) _ _ _ = _
    simp only [ff_X7_still_l10, n_m h, q2 h, c_m h, of0 h hi, Option.bind_some]
    rw [if_pos (by rw [zz_lt, ep2]; omega)]
    rfl) mm_fu (mm_fu_gt (by omega))
  have h00 : (nI (if g then cn (tg m i) 0 else 0), Int32.ofInt (tp m i 0)) = ((0 : Int32), m (410 + 11 * i)) := by
    have : Int32.ofInt (tp m i 0) = m (410 + 11 * i) := by unfold tp; simp
    rw [this]
    cases g <;> rfl
  rw [h00] at this
  simp only [ff_X7_still, c_m h, of2 h hi, this, Option.bind_some]
  rfl
theorem m_ga (h : Mo M y m) (hr : Rs m) {i : Nat} (hi : i < 10) : ff_X7_still M y (nI i) 1 = some (nI (ga m i)) := m_still h hr hi true
theorem m_ta (h : Mo M y m) (hr : Rs m) {i : Nat} (hi : i < 10) : ff_X7_still M y (nI i) 0 = some (nI (ta m i)) := m_still h hr hi false
theorem ga_0 (hr : Rs m) {i : Nat} (hi : i < 10) (h : (m 6).toInt ≤ i) : ta m i = 0 ∧ ga m i = 0 := by
  have hs := hr.2.2.2 i hi
  have h2 := hr.1
  have : ta m i = 0 := by
    rcases Nat.eq_zero_or_pos (ta m i) with q | q
    · exact q
    · have := (ta_iff hr (i := i) 0).mp q
      have e0 : tp m i 0 = (m (410 + 11 * i)).toInt := by unfold tp; simp
      omega
  exact ⟨this, by unfold ga; rw [this]; rfl⟩
theorem m_source (h : Mo M y m) (hr : Rs m) (s : Int32) : ((∃ i, i < 10 ∧ gv m s i = true) → ff_X7_source M y s = some (nI (fi (gv m s) 10))) ∧ ((∀ i, i < 10 → gv m s i = false) → ff_X7_source M y s = some (-1)) := by
  obtain ⟨N, eN⟩ : ∃ N : Nat, (m 6).toInt = N := ⟨(m 6).toInt.toNat, by have := hr.2.2.1; omega⟩
  have hN : N ≤ 10 := by have := hr.2.2.1; omega
  have hb : ∀ t, t < N → ff_X7_source_l2 M y s (nI t) = (if gv m s t then some (.inr (.inr (nI t))) else some (.inl (nI (t + 1)))) := by
    intro t ht
    have et := zz_nI t (by omega)
    have hg2 := cn_le (tg m t) (ta m t)
    have hg3 := ta_le hr (i := t) (by omega)
    have eg := zz_nI (ga m t) (by unfold ga; omega)
    simp only [ff_X7_source_l2, ff_X7_source_j34, n_m h, q6 h, c_m h, of1 h (show t < 10 by omega), m_ga h hr (show t < 10 by omega), Option.bind_some]
    rw [if_neg (by rw [zz_le]; omega), nI_1]
    unfold gv
    by_cases c1 : m (409 + 11 * t) = s
    · rw [if_pos c1]
      by_cases c2 : 0 < ga m t
      · rw [if_neg (by rw [zz_le, z0]; omega), if_pos (decide_eq_true ⟨c1, c2⟩)]
      · rw [if_pos (by rw [zz_le, z0]; omega), if_neg (by simp [c2])]
    · rw [if_neg c1, if_neg (by simp [c1])]
  have he : ff_X7_source_l2 M y s (nI N) = some (.inr (.inl (nI N))) := by
    have et := zz_nI N (by omega)
    simp only [ff_X7_source_l2, n_m h, q6 h, Option.bind_some]
    rw [if_pos (by rw [zz_le]; omega)]
  have hout : ∀ i, i < 10 → N ≤ i → gv m s i = false := by
    intro i hi hNi
    have := (ga_0 hr hi (by omega)).2
    simp [gv, this]
  constructor
  · intro hex
    obtain ⟨f1, f2, f3⟩ := fi_sp hex
    generalize fi (gv m s) 10 = i at *
    have hiN : i < N := by
      rcases Nat.lt_or_ge i N with q | q
      · exact q
      · rw [hout i f1 q] at f2; cases f2
    have := it_for (body := mm_u1 (ff_X7_source_l2 M y s)) (fun t => nI t) i (.inr (nI i)) (fun t ht => by
      show ff_X7_source_l2 M y s (nI t) = _
      rw [hb t (by omega), f3 t ht]; rfl) (by
      show ff_X7_source_l2 M y s (nI i) = _
      rw [hb i hiN, f2]; rfl) mm_fu (mm_fu_gt (by omega))
    simp only [ff_X7_source, show mm_it (mm_u1 (ff_X7_source_l2 M y s)) mm_fu 0 = some (.inr (nI i)) from this, Option.bind_some]
    rfl
  · intro hno
    have := it_for (body := mm_u1 (ff_X7_source_l2 M y s)) (fun t => nI t) N (.inl (nI N)) (fun t ht => by
      show ff_X7_source_l2 M y s (nI t) = _
      rw [hb t ht, hno t (by omega)]; rfl) he mm_fu (mm_fu_gt (by omega))
    simp only [ff_X7_source, show mm_it (mm_u1 (ff_X7_source_l2 M y s)) mm_fu 0 = some (.inl (nI N)) from this, Option.bind_some]
    rfl
/-- a shade can be had, as the reference asks -/
theorem m_av (h : Mo M y m) (hr : Rs m) {s : Nat} (hs : s < 100) : ∃ v, ff_X7_source M y (nI s) = some v ∧ (av m s ↔ 0 < (m (308 + s)).toInt ∨ v ≠ -1) := by
  have es := zz_nI s (by omega)
  obtain ⟨a1, a2⟩ := m_source h hr (nI s)
  by_cases hex : ∃ i, i < 10 ∧ gv m (nI s) i = true
  · obtain ⟨f1, f2, f3⟩ := fi_sp hex
    refine ⟨_, a1 hex, ?_⟩
    have ev := zz_nI (fi (gv m (nI s)) 10) (by omega)
    constructor
    · intro _
      exact Or.inr (by rw [Ne, zz_e, zm1]; omega)
    · intro _
      obtain ⟨i, i1, i2⟩ := hex
      simp only [gv, decide_eq_true_eq] at i2
      exact Or.inr ⟨i, i1, by rw [i2.1, es], i2.2⟩
  · refine ⟨_, a2 (fun i hi => by
      cases hq : gv m (nI s) i with
      | false => rfl
      | true => exact absurd ⟨i, hi, hq⟩ hex), ?_⟩
    constructor
    · rintro (⟨-, q⟩ | ⟨i, i1, i2, i3⟩)
      · exact Or.inl q
      · refine absurd ⟨i, i1, ?_⟩ hex
        simp only [gv, decide_eq_true_eq]
        exact ⟨by rw [zz_e, i2, es], i3⟩
    · rintro (q | q)
      · exact Or.inl ⟨hs, q⟩
      · exact absurd rfl q
theorem av_lt (hr : Rs m) {s : Nat} (h : av m s) : s < 100 := by
  rcases h with ⟨a, -⟩ | ⟨q, q1, q2, -⟩
  · exact a
  · have := (hr.2.2.2 q q1).2.1
    omega
theorem m_near (h : Mo M y m) (hr : Rs m) {w : Int32} (h0 : 0 ≤ w.toInt) (h1 : w.toInt ≤ 99) : ff_X7_nearestTo M y w = some (Int32.ofInt (nf m w.toInt)) ∧ nb (av m) w.toInt (nf m w.toInt) ∧ nf m w.toInt ≤ 99 := by
  obtain ⟨e, g1, g2⟩ := it_inv (body := mm_u1 (ff_X7_nearestTo_l2 M y w)) (fun t (x : Int32) => x = nI t ∧ ∀ s, av m s → t ≤ ((s : Int) - w.toInt).natAbs)
    (fun e => (∃ x, e = .inl x ∧ ∀ s, ¬ av m s) ∨ (∃ s : Nat, e = .inr (nI s) ∧ s < 100 ∧ nb (av m) w.toInt s)) 100 (by
      rintro t x ht ⟨rfl, hq⟩
      have et := zz_nI t (by omega)
      show (∃ s', ff_X7_nearestTo_l2 M y w (nI t) = _ ∧ _) ∨ (∃ e, ff_X7_nearestTo_l2 M y w (nI t) = _ ∧ _)
      have el : (w - nI t).toInt = w.toInt - t := by rw [zz_s (by omega) (by omega), et]
      have eh : (w + nI t).toInt = w.toInt + t := by rw [zz_a (by omega) (by omega), et]
      -- the higher one
      have hhi : (w.toInt < t ∨ ¬ av m (w.toInt - t).toNat) → (∃ s', ff_X7_nearestTo_j45 M y w (nI t) (w + nI t) = some (.inl s') ∧ s' = nI (t + 1) ∧ ∀ s, av m s → t + 1 ≤ ((s : Int) - w.toInt).natAbs) ∨ (∃ e, ff_X7_nearestTo_j45 M y w (nI t) (w + nI t) = some (.inr e) ∧ ((∃ x, e = .inl x ∧ ∀ s, ¬ av m s) ∨ (∃ s : Nat, e = .inr (nI s) ∧ s < 100 ∧ nb (av m) w.toInt s))) := by
        intro hlo
        have hnl : ∀ s, av m s → (s : Int) ≠ w.toInt - t := by
          intro s hs he
          rcases hlo with q | q
          · omega
          · rw [show (w.toInt - t).toNat = s by omega] at q; exact q hs
        simp only [ff_X7_nearestTo_j45, ff_X7_nearestTo_j79]
        by_cases c1 : w.toInt + t ≥ 100
        · rw [if_pos (by rw [zz_le, z100]; omega), nI_1]
          refine Or.inl ⟨_, rfl, rfl, fun s hs => ?_⟩
          have a := hq s hs
          have b := hnl s hs
          have c := av_lt hr hs
          omega
        · rw [if_neg (by rw [zz_le, z100]; omega)]
          obtain ⟨H, eH⟩ : ∃ H : Nat, w.toInt + t = H := ⟨(w.toInt + t).toNat, by omega⟩
          have ew : w + nI t = nI H := zz_nn (by omega)
          obtain ⟨v, v1, v2⟩ := m_av h hr (s := H) (by omega)
          have ei : (308 + (w + nI t)).toInt = ((308 + H : Nat) : Int) := by rw [ew]; exact ixm 308 308 z308 (by omega) (by omega)
          simp only [n_m h, q_m h ei (by omega), c_m h, Option.bind_some]
          rw [ew, v1, Option.bind_some]
          have hfound : av m H → nb (av m) w.toInt H := fun hH => Or.inr ⟨H, rfl, hH, fun s hs => by
            have a := hq s hs
            have b := hnl s hs
            unfold le3
            omega⟩
          by_cases c2 : 0 < m (308 + H)
          · rw [if_pos c2]
            rw [zz_lt, z0] at c2
            exact Or.inr ⟨_, rfl, Or.inr ⟨H, rfl, by omega, hfound (v2.mpr (Or.inl c2))⟩⟩
          · rw [if_neg c2]
            rw [zz_lt, z0] at c2
            by_cases c3 : v = -1
            · rw [if_pos c3, nI_1]
              refine Or.inl ⟨_, rfl, rfl, fun s hs => ?_⟩
              have a := hq s hs
              have b := hnl s hs
              have c : (s : Int) ≠ H := fun q => by
                rw [show s = H by omega] at hs
                rcases v2.mp hs with d | d
                · exact c2 d
                · exact d c3
              omega
            · rw [if_neg c3]
              exact Or.inr ⟨_, rfl, Or.inr ⟨H, rfl, by omega, hfound (v2.mpr (Or.inr c3))⟩⟩
      simp only [ff_X7_nearestTo_l2]
      rw [if_neg (by rw [zz_le, z100]; omega)]
      by_cases c1 : w.toInt < t
      · rw [if_pos (by rw [zz_lt, z0]; omega)]
        rcases hhi (Or.inl c1) with ⟨s', b1, b2, b3⟩ | q
        · exact Or.inl ⟨s', b1, b2, b3⟩
        · exact Or.inr q
      · rw [if_neg (by rw [zz_lt, z0]; omega)]
        obtain ⟨L, eL⟩ : ∃ L : Nat, w.toInt - t = L := ⟨(w.toInt - t).toNat, by omega⟩
        have ew : w - nI t = nI L := zz_nn (by omega)
        obtain ⟨v, v1, v2⟩ := m_av h hr (s := L) (by omega)
        have ei : (308 + (w - nI t)).toInt = ((308 + L : Nat) : Int) := by rw [ew]; exact ixm 308 308 z308 (by omega) (by omega)
        simp only [n_m h, q_m h ei (by omega), c_m h, Option.bind_some]
        rw [ew, v1, Option.bind_some]
        have hfound : av m L → nb (av m) w.toInt L := fun hL => Or.inr ⟨L, rfl, hL, fun s hs => by
          have a := hq s hs
          unfold le3
          omega⟩
        by_cases c2 : 0 < m (308 + L)
        · rw [if_pos c2]
          rw [zz_lt, z0] at c2
          exact Or.inr ⟨_, rfl, Or.inr ⟨L, rfl, by omega, hfound (v2.mpr (Or.inl c2))⟩⟩
        · rw [if_neg c2]
          rw [zz_lt, z0] at c2
          by_cases c3 : v = -1
          · rw [if_pos c3]
            have hnav : ¬ av m (w.toInt - t).toNat := by
              rw [show (w.toInt - t).toNat = L by omega]
              intro hs
              rcases v2.mp hs with d | d
              · exact c2 d
              · exact d c3
            rcases hhi (Or.inr hnav) with ⟨s', b1, b2, b3⟩ | q
            · exact Or.inl ⟨s', b1, b2, b3⟩
            · exact Or.inr q
          · rw [if_neg c3]
            exact Or.inr ⟨_, rfl, Or.inr ⟨L, rfl, by omega, hfound (v2.mpr (Or.inr c3))⟩⟩) (by
      rintro x ⟨rfl, hq⟩
      refine ⟨.inl (nI 100), ?_, Or.inl ⟨_, rfl, fun s hs => ?_⟩⟩
      · show ff_X7_nearestTo_l2 M y w (nI 100) = _
        simp only [ff_X7_nearestTo_l2]
        rw [if_pos (by decide)]
      · have a := hq s hs
        have b := av_lt hr hs
        omega) (0 : Int32) mm_fu (mm_fu_gt (by omega)) ⟨rfl, fun s _ => Nat.zero_le _⟩
  simp only [ff_X7_nearestTo, g1, Option.bind_some]
  rcases g2 with ⟨x, rfl, hno⟩ | ⟨s, rfl, hs, hnb⟩
  · have : nb (av m) w.toInt (-1) := Or.inl ⟨rfl, hno⟩
    rw [nf_eq this]
    exact ⟨rfl, this, by omega⟩
  · rw [nf_eq hnb]
    refine ⟨?_, hnb, by omega⟩
    show some (nI s) = _
    congr 1
theorem m_sumH (h : Mo M y m) : ff_X7_atHand M y = some (su (fun s => m (308 + s)) 100) := by
  have := it_for (body := mm_u2 (ff_X7_atHand_l4 M y)) (fun t => (su (fun s => m (308 + s)) t, nI t)) 100 (su (fun s => m (308 + s)) 100, nI 100) (by
    intro t ht
    have et := zz_nI t (by omega)
    show ff_X7_atHand_l4 M y _ _ = _
    simp only [ff_X7_atHand_l4, n_m h, q_m h (ixm 308 308 z308 (by omega) (n := t) (by omega)) (show 308 + t < 518 by omega), Option.bind_some]
    rw [if_neg (by rw [zz_le, z100]; omega), nI_1]
    rfl) (by
    show ff_X7_atHand_l4 M y _ _ = _
    simp only [ff_X7_atHand_l4]
    rw [if_pos (by decide)]) mm_fu (mm_fu_gt (by omega))
  rw [show (su (fun s => m (308 + s)) 0, nI 0) = ((0 : Int32), (0 : Int32)) from rfl] at this
  simp only [ff_X7_atHand, this, Option.bind_some]
  rfl
theorem m_ready (h : Mo M y m) (hr : Rs m) {s : Int32} (h0 : 0 ≤ s.toInt) (h1 : s.toInt ≤ 99) : ff_X7_readyOf M y s = some (m (308 + s.toInt.toNat) + rdy m s 10) := by
  obtain ⟨N, eN⟩ : ∃ N : Nat, (m 6).toInt = N := ⟨(m 6).toInt.toNat, by have := hr.2.2.1; omega⟩
  have hN : N ≤ 10 := by have := hr.2.2.1; omega
  have ecut : rdy m s 10 = rdy m s N := by
    unfold rdy
    refine su_cut hN (fun i h1 h2 => ?_)
    have := (ga_0 hr h2 (by omega)).2
    simp only [this]
    split <;> rfl
  have ei : (308 + s).toInt = ((308 + s.toInt.toNat : Nat) : Int) := by
    rw [zz_a (by rw [z308]; omega) (by rw [z308]; omega), z308]
    omega
  have := it_for (body := mm_u2 (ff_X7_readyOf_l13 M y s)) (fun t => (m (308 + s.toInt.toNat) + rdy m s t, nI t)) N (m (308 + s.toInt.toNat) + rdy m s N, nI N) (by
    intro t ht
    have et := zz_nI t (by omega)
    show ff_X7_readyOf_l13 M y s _ _ = _
    simp only [ff_X7_readyOf_l13, ff_X7_readyOf_j45, n_m h, q6 h, c_m h, of1 h (show t < 10 by omega), m_ga h hr (show t < 10 by omega), Option.bind_some]
    rw [if_neg (by rw [zz_le]; omega), nI_1]
    have hstep : rdy m s (t + 1) = rdy m s t + (if m (409 + 11 * t) = s then nI (ga m t) else 0) := rfl
    rw [hstep]
    by_cases hc : m (409 + 11 * t) = s
    · rw [if_pos hc, if_pos hc, Int32.add_assoc]
    · rw [if_neg hc, if_neg hc, Int32.add_zero, Int32.add_zero]) (by
    have et := zz_nI N (by omega)
    show ff_X7_readyOf_l13 M y s _ _ = _
    simp only [ff_X7_readyOf_l13, n_m h, q6 h, Option.bind_some]
    rw [if_pos (by rw [zz_le]; omega)]) mm_fu (mm_fu_gt (by omega))
  rw [show (m (308 + s.toInt.toNat) + rdy m s 0, nI 0) = (m (308 + s.toInt.toNat) + 0, (0 : Int32)) from rfl, Int32.add_zero] at this
  simp only [ff_X7_readyOf, n_m h, q_m h ei (by omega), this, Option.bind_some]
  rw [ecut]
  rfl
end MS
