/-! the law's border -/
/-- a loop that carries 'and' along -/
theorem and_loop {body : Int32 × Int32 → Option ((Int32 × Int32) ⊕ (Int32 × Int32))} (P : Nat → Prop) (t0 T : Nat) (ht : t0 ≤ T) (hT : T < 9000)
    (h0 : ∀ t, t0 ≤ t → t < T → body (0, nI t) = some (.inl (0, nI (t + 1)))) (h1 : ∀ t, t0 ≤ t → t < T → P t → body (1, nI t) = some (.inl (1, nI (t + 1)))) (h2 : ∀ t, t0 ≤ t → t < T → ¬ P t → body (1, nI t) = some (.inl (0, nI (t + 1))))
    (he : ∀ a, body (a, nI T) = some (.inr (a, nI T))) {a : Int32} (ha : a = 0 ∨ a = 1) :
    ∃ a', mm_it body mm_fu (a, nI t0) = some (a', nI T) ∧ ((a' = 1 ∧ a = 1 ∧ ∀ t, t0 ≤ t → t < T → P t) ∨ (a' = 0 ∧ ¬ (a = 1 ∧ ∀ t, t0 ≤ t → t < T → P t))) := by
  obtain ⟨e, g1, a', rfl, g2⟩ := it_inv (body := body) (fun i (st : Int32 × Int32) => ∃ a', st = (a', nI (t0 + i)) ∧ ((a' = 1 ∧ a = 1 ∧ ∀ t, t0 ≤ t → t < t0 + i → P t) ∨ (a' = 0 ∧ ¬ (a = 1 ∧ ∀ t, t0 ≤ t → t < t0 + i → P t)))) (fun e => ∃ a', e = (a', nI T) ∧ ((a' = 1 ∧ a = 1 ∧ ∀ t, t0 ≤ t → t < T → P t) ∨ (a' = 0 ∧ ¬ (a = 1 ∧ ∀ t, t0 ≤ t → t < T → P t)))) (T - t0) (by
      rintro i st hi ⟨a', rfl, ha'⟩
      left
      rcases ha' with ⟨rfl, q1, q2⟩ | ⟨rfl, q⟩
      · by_cases hP : P (t0 + i)
        · refine ⟨_, h1 (t0 + i) (by omega) (by omega) hP, 1, rfl, Or.inl ⟨rfl, q1, fun t w1 w2 => ?_⟩⟩
          by_cases hti : t = t0 + i
          · rw [hti]; exact hP
          · exact q2 t w1 (by omega)
        · exact ⟨_, h2 (t0 + i) (by omega) (by omega) hP, 0, rfl, Or.inr ⟨rfl, fun w => hP (w.2 (t0 + i) (by omega) (by omega))⟩⟩
      · exact ⟨_, h0 (t0 + i) (by omega) (by omega), 0, rfl, Or.inr ⟨rfl, fun w => q ⟨w.1, fun t w1 w2 => w.2 t w1 (by omega)⟩⟩⟩) (by
      rintro st ⟨a', rfl, ha'⟩
      have e : t0 + (T - t0) = T := by omega
      rw [e] at ha' ⊢
      exact ⟨_, he a', a', rfl, ha'⟩) (a, nI t0) mm_fu (mm_fu_gt (by omega)) ⟨a, rfl, by
        rcases ha with rfl | rfl
        · exact Or.inr ⟨rfl, fun w => absurd w.1 (by decide)⟩
        · exact Or.inl ⟨rfl, rfl, fun t w1 w2 => by omega⟩⟩
  exact ⟨a', g1, g2⟩
section BO
variable {n N : Int} {b u tl : Nat} {M : mm_M} {k tx : Nat → Int32} {pg : Nat → Nat → Int32}
theorem W_top (hp : Rp k) {x : Int32} : wn k x 0 = bw k x.toInt := by
  unfold wn bn
  rw [z0, if_pos (Or.inr (Or.inr (Or.inl rfl))), if_pos rfl]
theorem W_bot (hp : Rp k) {x : Int32} (hx : 0 ≤ x.toInt ∧ x.toInt < (k 0).toInt) : wn k x (k 1 - 1) = bw k (2 * ((k 0).toInt - 1) + ((k 1).toInt - 1) - x.toInt) := by
  unfold Rp at hp
  have e : (k 1 - 1).toInt = (k 1).toInt - 1 := by rw [zz_s (by rw [z1]; omega) (by rw [z1]; omega), z1]
  unfold wn
  rw [e, if_pos (Or.inr (Or.inr (Or.inr rfl)))]
  congr 1
  unfold bn
  rw [if_neg (by omega)]
  split
  · omega
  · rw [if_pos rfl]; omega
theorem W_left (hp : Rp k) {y : Int32} (hy : 0 ≤ y.toInt ∧ y.toInt < (k 1).toInt) : wn k 0 y = bw k (if y.toInt = 0 then 0 else 2 * ((k 0).toInt + (k 1).toInt - 2) - y.toInt) := by
  unfold Rp at hp
  unfold wn
  rw [z0, if_pos (Or.inl rfl)]
  congr 1
  unfold bn
  split
  · rfl
  · rw [if_neg (by omega)]
    split <;> omega
theorem W_right (hp : Rp k) {y : Int32} (hy : 0 ≤ y.toInt ∧ y.toInt < (k 1).toInt) : wn k (k 0 - 1) y = bw k ((k 0).toInt - 1 + y.toInt) := by
  unfold Rp at hp
  have e : (k 0 - 1).toInt = (k 0).toInt - 1 := by rw [zz_s (by rw [z1]; omega) (by rw [z1]; omega), z1]
  unfold wn
  rw [e, if_pos (Or.inr (Or.inl rfl))]
  congr 1
  unfold bn
  split
  · omega
  · rw [if_pos rfl]
/-- neighbours along rows, along columns -/
def PA (k : Nat → Int32) (t : Nat) : Prop := wn k (nI t) 0 ≠ wn k (nI (t + 1)) 0 ∧ wn k (nI t) (k 1 - 1) ≠ wn k (nI (t + 1)) (k 1 - 1)
def PB (k : Nat → Int32) (t : Nat) : Prop := wn k 0 (nI t) ≠ wn k 0 (nI (t + 1)) ∧ wn k (k 0 - 1) (nI t) ≠ wn k (k 0 - 1) (nI (t + 1))
theorem ME_i (hp : Rp k) {w h : Nat} (ew : (k 0).toInt = w) (eh : (k 1).toInt = h) : (∀ j : Nat, (j : Int) < 2 * ((k 0).toInt + (k 1).toInt - 2) → bw k j ≠ bw k (if j = 0 then 2 * ((k 0).toInt + (k 1).toInt - 2) - 1 else (j : Int) - 1)) ↔ ((∀ t, t < w - 1 → PA k t) ∧ (∀ t, t < h - 1 → PB k t)) := by
  have hp' := hp
  unfold Rp at hp'
  have at_ : ∀ t : Nat, t < 12 → (nI t).toInt = t := fun t ht => zz_nI t (by omega)
  have A1 : ∀ t : Nat, t < w → wn k (nI t) 0 = bw k (t : Int) := fun t ht => by rw [W_top hp, at_ t (by omega)]
  have A2 : ∀ t : Nat, t < w → wn k (nI t) (k 1 - 1) = bw k (2 * ((w : Int) - 1) + ((h : Int) - 1) - t) := fun t ht => by rw [W_bot hp (by rw [at_ t (by omega)]; omega), at_ t (by omega), ew, eh]
  have B1 : ∀ t : Nat, t < h → wn k 0 (nI t) = bw k (if (t : Int) = 0 then 0 else 2 * ((w : Int) + h - 2) - t) := fun t ht => by rw [W_left hp (by rw [at_ t (by omega)]; omega), at_ t (by omega), ew, eh]
  have B2 : ∀ t : Nat, t < h → wn k (k 0 - 1) (nI t) = bw k ((w : Int) - 1 + t) := fun t ht => by rw [W_right hp (by rw [at_ t (by omega)]; omega), at_ t (by omega), ew]
  rw [ew, eh]
  -- by whole numbers
  have C : ∀ {i j : Int} {i' j' : Int}, i = i' → j = j' → bw k i ≠ bw k j → bw k i' ≠ bw k j' := fun h1 h2 h3 => by rw [← h1, ← h2]; exact h3
  constructor
  · intro H
    refine ⟨fun t ht => ?_, fun t ht => ?_⟩
    · unfold PA
      rw [A1 t (by omega), A1 (t + 1) (by omega), A2 t (by omega), A2 (t + 1) (by omega)]
      constructor
      · have q := H (t + 1) (by omega)
        rw [if_neg (by omega)] at q
        exact (C (by omega) (by omega) q : bw k ((t + 1 : Nat) : Int) ≠ bw k (t : Int)).symm
      · have q := H ((2 * ((w : Int) - 1) + ((h : Int) - 1) - t).toNat) (by omega)
        rw [if_neg (by omega)] at q
        exact C (by omega) (by omega) q
    · unfold PB
      rw [B1 t (by omega), B1 (t + 1) (by omega), B2 t (by omega), B2 (t + 1) (by omega)]
      constructor
      · rw [if_neg (show ¬ ((t + 1 : Nat) : Int) = 0 by omega)]
        by_cases h0 : t = 0
        · subst h0
          have q := H 0 (by omega)
          rw [if_pos rfl] at q
          rw [if_pos (by omega)]
          exact C (by omega) (by omega) q
        · have q := H ((2 * ((w : Int) + h - 2) - t).toNat) (by omega)
          rw [if_neg (by omega)] at q
          rw [if_neg (by omega)]
          exact C (by omega) (by omega) q
      · have q := H ((w : Int) - 1 + t + 1).toNat (by omega)
        rw [if_neg (by omega)] at q
        exact (C (by omega) (by omega) q : bw k ((w : Int) - 1 + (t + 1 : Nat)) ≠ bw k ((w : Int) - 1 + t)).symm
  · rintro ⟨HA, HB⟩ j hj
    by_cases j0 : j = 0
    · subst j0
      rw [if_pos rfl]
      have q := (HB 0 (by omega)).1
      rw [B1 0 (by omega), B1 1 (by omega), if_pos (by omega), if_neg (by omega)] at q
      exact C (by omega) (by omega) q
    · rw [if_neg j0]
      by_cases j1 : j ≤ w - 1
      · have q := (HA (j - 1) (by omega)).1
        rw [A1 (j - 1) (by omega), A1 (j - 1 + 1) (by omega)] at q
        exact C (by omega) (by omega) q.symm
      · by_cases j2 : j ≤ w + h - 2
        · have q := (HB (j - w) (by omega)).2
          rw [B2 (j - w) (by omega), B2 (j - w + 1) (by omega)] at q
          exact C (by omega) (by omega) q.symm
        · by_cases j3 : j ≤ 2 * (w - 1) + (h - 1)
          · have q := (HA (2 * (w - 1) + (h - 1) - j) (by omega)).2
            rw [A2 _ (by omega), A2 _ (by omega)] at q
            exact C (by omega) (by omega) q
          · have q := (HB (2 * (w + h - 2) - j) (by omega)).1
            rw [B1 _ (by omega), B1 _ (by omega), if_neg (by omega), if_neg (by omega)] at q
            exact C (by omega) (by omega) q
/-- the corners, when the way isn't around -/
theorem bw_cor (hp : Rp k) (h5 : (k 5).toInt ≠ 0) {m : Int} (hm : m = 0 ∨ m = (k 0).toInt - 1 ∨ m = (k 0).toInt + (k 1).toInt - 2 ∨ m = 2 * ((k 0).toInt - 1) + ((k 1).toInt - 1)) : bw k m = k 12 := by
  have hp' := hp
  unfold Rp at hp'
  have eJ : sJ (k 0).toInt (k 1).toInt m = 0 := by unfold sJ; split <;> (try split) <;> (try split) <;> omega
  have eN : 0 ≤ sN (k 0).toInt (k 1).toInt m := by unfold sN; split <;> omega
  have e : sI (k 0).toInt (k 1).toInt (k 4).toInt (k 5).toInt m = 0 := by
    unfold sI
    rw [if_neg h5, eJ]
    split
    · rw [show min (0 : Int) (sN (k 0).toInt (k 1).toInt m - 0) = 0 by omega, Int.zero_emod]
    · split
      · rfl
      · exact Int.zero_emod _
  unfold bw
  rw [e]
  rfl
/-- way 1: alike from both corners -/
theorem bw_1 (hp : Rp k) (h5 : (k 5).toInt = 1) {m : Int} (d : Int) (hd : min (sJ (k 0).toInt (k 1).toInt m) (sN (k 0).toInt (k 1).toInt m - sJ (k 0).toInt (k 1).toInt m) = d) : bw k m = k (12 + (d % (k 4).toInt).toNat) := by
  have e : sI (k 0).toInt (k 1).toInt (k 4).toInt (k 5).toInt m = d % (k 4).toInt := by
    unfold sI
    rw [h5, if_neg (by omega), if_pos rfl, hd]
  unfold bw
  rw [e]
theorem alike_1 (hp : Rp k) (h5 : (k 5).toInt = 1) {x : Int32} (hx : 0 ≤ x.toInt ∧ x.toInt < (k 0).toInt) : wn k x 0 = wn k (k 0 - 1 - x) 0 ∧ wn k x 0 = wn k x (k 1 - 1) := by
  have hp' := hp
  unfold Rp at hp'
  have e : (k 0 - 1 - x).toInt = (k 0).toInt - 1 - x.toInt := by
    have e1 : (k 0 - 1).toInt = (k 0).toInt - 1 := by rw [zz_s (by rw [z1]; omega) (by rw [z1]; omega), z1]
    rw [zz_s (by omega) (by omega), e1]
  rw [W_top hp, W_top hp, W_bot hp hx, e, bw_1 hp h5 (min x.toInt ((k 0).toInt - 1 - x.toInt)) (by unfold sJ sN; split <;> (try split) <;> omega), bw_1 hp h5 (m := (k 0).toInt - 1 - x.toInt) (min x.toInt ((k 0).toInt - 1 - x.toInt)) (by unfold sJ sN; split <;> (try split) <;> omega), bw_1 hp h5 (m := 2 * ((k 0).toInt - 1) + ((k 1).toInt - 1) - x.toInt) (min x.toInt ((k 0).toInt - 1 - x.toInt)) (by unfold sJ sN; split <;> (try split) <;> (try split) <;> (try split) <;> omega)]
  exact ⟨rfl, rfl⟩
theorem l_border (hC : Ci M b k u pg tl tx) (hI : IP 2000 k) : ff_L_border M b = some 1 := by
  have hp := hI.1
  have hp' := hp
  unfold Rp at hp'
  obtain ⟨w, ew, ew'⟩ := nat_of (a := k 0) (by omega)
  obtain ⟨h, eh, eh'⟩ := nat_of (a := k 1) (by omega)
  obtain ⟨L, eL, eL'⟩ := nat_of (a := k 4) (by omega)
  have at_ : ∀ t : Nat, t < 13 → (nI t).toInt = t := fun t ht => zz_nI t (by omega)
  have e0 : (k 0 - 1).toInt = (w : Int) - 1 := by rw [zz_s (by rw [z1]; omega) (by rw [z1]; omega), z1, ew]
  have e1 : (k 1 - 1).toInt = (h : Int) - 1 := by rw [zz_s (by rw [z1]; omega) (by rw [z1]; omega), z1, eh]
  have first : ff_X6_shade M b 0 = some (k 12) := r_shade hC hp (x := 0) (by omega)
  have i00 : ins k 0 0 := by unfold ins; rw [z0]; omega
  have i10 : ins k (k 0 - 1) 0 := by unfold ins; rw [z0]; omega
  have i01 : ins k 0 (k 1 - 1) := by unfold ins; rw [z0]; omega
  have i11 : ins k (k 0 - 1) (k 1 - 1) := by unfold ins; omega
  have cells : ∀ {x y : Int32}, ins k x y → ff_X6_cell M b x y 0 = some (wn k x y) := fun hi => r_cell0 hC hp hi
  -- the corners
  obtain ⟨cr, cr1, cr2, cr3⟩ : ∃ cr : Int32, ff_L_border M b = ff_L_border_j75 M b (k 0) (k 1) (k 12) cr ∧ (cr = 0 ∨ cr = 1) ∧ ((k 5).toInt ≠ 0 → cr = 1) := by
    simp only [ff_L_border, ff_L_border_j74, i_c hC, r_c0 hC, r_c1 hC, first, cells i00, cells i10, cells i01, cells i11, Option.bind_some]
    by_cases h5 : (k 5).toInt ≠ 0
    · have q1 : wn k 0 0 = k 12 := by rw [W_top hp, bw_cor hp h5 (by rw [z0]; omega)]
      have q2 : wn k (k 0 - 1) 0 = k 12 := by rw [W_top hp, bw_cor hp h5 (by omega)]
      have q3 : wn k 0 (k 1 - 1) = k 12 := by rw [W_bot hp (by rw [z0]; omega), bw_cor hp h5 (by rw [z0]; omega)]
      have q4 : wn k (k 0 - 1) (k 1 - 1) = k 12 := by rw [W_bot hp (by omega), bw_cor hp h5 (by omega)]
      rw [if_pos q1, if_pos q2, if_pos q3, if_pos q4]
      exact ⟨1, rfl, Or.inr rfl, fun _ => rfl⟩
    · by_cases q1 : wn k 0 0 = k 12
      · rw [if_pos q1]
        by_cases q2 : wn k (k 0 - 1) 0 = k 12
        · rw [if_pos q2]
          by_cases q3 : wn k 0 (k 1 - 1) = k 12
          · rw [if_pos q3]
            by_cases q4 : wn k (k 0 - 1) (k 1 - 1) = k 12
            · rw [if_pos q4]
              exact ⟨1, rfl, Or.inr rfl, fun _ => rfl⟩
            · rw [if_neg q4]
              exact ⟨0, rfl, Or.inl rfl, fun q => absurd q h5⟩
          · rw [if_neg q3]
            exact ⟨0, rfl, Or.inl rfl, fun q => absurd q h5⟩
        · rw [if_neg q2]
          exact ⟨0, rfl, Or.inl rfl, fun q => absurd q h5⟩
      · rw [if_neg q1]
        exact ⟨0, rfl, Or.inl rfl, fun q => absurd q h5⟩
  rw [cr1]
  -- along rows
  obtain ⟨a1, A1, A2⟩ := and_loop (body := mm_u2 (ff_L_border_l83 M b (k 0) (k 1) (k 12) cr)) (PA k) 0 (w - 1) (by omega) (by omega)
    (fun t _ ht => by
      show ff_L_border_l83 M b (k 0) (k 1) (k 12) cr 0 (nI t) = _
      simp only [ff_L_border_l83, ff_L_border_j146, ff_L_border_j147]
      rw [nI_1, if_neg (by rw [zz_le, at_ (t + 1) (by omega)]; omega), if_pos trivial])
    (fun t _ ht hP => by
      have j1 : ins k (nI t) 0 := by unfold ins; rw [z0, at_ t (by omega)]; omega
      have j2 : ins k (nI (t + 1)) 0 := by unfold ins; rw [z0, at_ (t + 1) (by omega)]; omega
      have j3 : ins k (nI t) (k 1 - 1) := by unfold ins; rw [at_ t (by omega)]; omega
      have j4 : ins k (nI (t + 1)) (k 1 - 1) := by unfold ins; rw [at_ (t + 1) (by omega)]; omega
      show ff_L_border_l83 M b (k 0) (k 1) (k 12) cr 1 (nI t) = _
      simp only [ff_L_border_l83, ff_L_border_j146, ff_L_border_j147, nI_1, i_c hC, cells j1, cells j2, cells j3, cells j4, Option.bind_some]
      rw [if_neg (by rw [zz_le, at_ (t + 1) (by omega)]; omega), if_neg (by decide), if_neg hP.1, if_neg hP.2])
    (fun t _ ht hP => by
      have j1 : ins k (nI t) 0 := by unfold ins; rw [z0, at_ t (by omega)]; omega
      have j2 : ins k (nI (t + 1)) 0 := by unfold ins; rw [z0, at_ (t + 1) (by omega)]; omega
      have j3 : ins k (nI t) (k 1 - 1) := by unfold ins; rw [at_ t (by omega)]; omega
      have j4 : ins k (nI (t + 1)) (k 1 - 1) := by unfold ins; rw [at_ (t + 1) (by omega)]; omega
      show ff_L_border_l83 M b (k 0) (k 1) (k 12) cr 1 (nI t) = _
      simp only [ff_L_border_l83, ff_L_border_j146, ff_L_border_j147, nI_1, i_c hC, cells j1, cells j2, cells j3, cells j4, Option.bind_some]
      rw [if_neg (by rw [zz_le, at_ (t + 1) (by omega)]; omega), if_neg (by decide)]
      by_cases q : wn k (nI t) 0 = wn k (nI (t + 1)) 0
      · rw [if_pos q]
      · rw [if_neg q, if_pos (Classical.byContradiction fun q2 => hP ⟨q, q2⟩)])
    (fun a => by
      show ff_L_border_l83 M b (k 0) (k 1) (k 12) cr a (nI (w - 1)) = _
      simp only [ff_L_border_l83]
      rw [nI_1, if_pos (by rw [zz_le, at_ (w - 1 + 1) (by omega)]; omega)]) (a := 1) (Or.inr rfl)
  have ha1 : a1 = 0 ∨ a1 = 1 := by rcases A2 with ⟨q, -⟩ | ⟨q, -⟩; exact Or.inr q; exact Or.inl q
  -- along columns
  obtain ⟨a2, B1, B2⟩ := and_loop (body := mm_u2 (ff_L_border_l158 M b (k 0) (k 1) (k 12) cr)) (PB k) 0 (h - 1) (by omega) (by omega)
    (fun t _ ht => by
      show ff_L_border_l158 M b (k 0) (k 1) (k 12) cr 0 (nI t) = _
      simp only [ff_L_border_l158, ff_L_border_j221, ff_L_border_j222]
      rw [nI_1, if_neg (by rw [zz_le, at_ (t + 1) (by omega)]; omega), if_pos trivial])
    (fun t _ ht hP => by
      have j1 : ins k 0 (nI t) := by unfold ins; rw [z0, at_ t (by omega)]; omega
      have j2 : ins k 0 (nI (t + 1)) := by unfold ins; rw [z0, at_ (t + 1) (by omega)]; omega
      have j3 : ins k (k 0 - 1) (nI t) := by unfold ins; rw [at_ t (by omega)]; omega
      have j4 : ins k (k 0 - 1) (nI (t + 1)) := by unfold ins; rw [at_ (t + 1) (by omega)]; omega
      show ff_L_border_l158 M b (k 0) (k 1) (k 12) cr 1 (nI t) = _
      simp only [ff_L_border_l158, ff_L_border_j221, ff_L_border_j222, nI_1, i_c hC, cells j1, cells j2, cells j3, cells j4, Option.bind_some]
      rw [if_neg (by rw [zz_le, at_ (t + 1) (by omega)]; omega), if_neg (by decide), if_neg hP.1, if_neg hP.2])
    (fun t _ ht hP => by
      have j1 : ins k 0 (nI t) := by unfold ins; rw [z0, at_ t (by omega)]; omega
      have j2 : ins k 0 (nI (t + 1)) := by unfold ins; rw [z0, at_ (t + 1) (by omega)]; omega
      have j3 : ins k (k 0 - 1) (nI t) := by unfold ins; rw [at_ t (by omega)]; omega
      have j4 : ins k (k 0 - 1) (nI (t + 1)) := by unfold ins; rw [at_ (t + 1) (by omega)]; omega
      show ff_L_border_l158 M b (k 0) (k 1) (k 12) cr 1 (nI t) = _
      simp only [ff_L_border_l158, ff_L_border_j221, ff_L_border_j222, nI_1, i_c hC, cells j1, cells j2, cells j3, cells j4, Option.bind_some]
      rw [if_neg (by rw [zz_le, at_ (t + 1) (by omega)]; omega), if_neg (by decide)]
      by_cases q : wn k 0 (nI t) = wn k 0 (nI (t + 1))
      · rw [if_pos q]
      · rw [if_neg q, if_pos (Classical.byContradiction fun q2 => hP ⟨q, q2⟩)])
    (fun a => by
      show ff_L_border_l158 M b (k 0) (k 1) (k 12) cr a (nI (h - 1)) = _
      simp only [ff_L_border_l158]
      rw [nI_1, if_pos (by rw [zz_le, at_ (h - 1 + 1) (by omega)]; omega)]) ha1
  -- one shade
  obtain ⟨a3, C1, C2⟩ := and_loop (body := mm_u2 (ff_L_border_l236 M b (k 0) (k 1) (k 12) cr a2)) (fun t => k (12 + t) = k 12) 1 L (by omega) (by omega)
    (fun t _ ht => by
      show ff_L_border_l236 M b (k 0) (k 1) (k 12) cr a2 0 (nI t) = _
      simp only [ff_L_border_l236, ff_L_border_j265, ff_L_border_j266, i_c hC, r_c3 hC, Option.bind_some]
      rw [if_neg (by rw [zz_le, at_ t (by omega)]; omega), if_pos trivial, nI_1])
    (fun t _ ht hP => by
      have sh := r_shade hC hp (x := t) (by omega)
      show ff_L_border_l236 M b (k 0) (k 1) (k 12) cr a2 1 (nI t) = _
      simp only [ff_L_border_l236, ff_L_border_j265, ff_L_border_j266, i_c hC, r_c3 hC, sh, Option.bind_some]
      rw [if_neg (by rw [zz_le, at_ t (by omega)]; omega), if_neg (by decide), if_pos hP, nI_1])
    (fun t _ ht hP => by
      have sh := r_shade hC hp (x := t) (by omega)
      show ff_L_border_l236 M b (k 0) (k 1) (k 12) cr a2 1 (nI t) = _
      simp only [ff_L_border_l236, ff_L_border_j265, ff_L_border_j266, i_c hC, r_c3 hC, sh, Option.bind_some]
      rw [if_neg (by rw [zz_le, at_ t (by omega)]; omega), if_neg (by decide), if_neg hP, nI_1])
    (fun a => by
      show ff_L_border_l236 M b (k 0) (k 1) (k 12) cr a2 a (nI L) = _
      simp only [ff_L_border_l236, i_c hC, r_c3 hC, Option.bind_some]
      rw [if_pos (by rw [zz_le, at_ L (by omega)]; omega)]) (a := 1) (Or.inr rfl)
  -- alike
  obtain ⟨z, D1⟩ : ∃ z, mm_it (mm_u2 (ff_L_border_l280 M b (k 0) (k 1) cr a2 a3)) mm_fu ((1 : Int32), (0 : Int32)) = some ((1 : Int32), z) := by
    by_cases h5 : k 5 = 1
    · refine ⟨nI w, it_for (body := mm_u2 (ff_L_border_l280 M b (k 0) (k 1) cr a2 a3)) (fun t => ((1 : Int32), nI t)) w _ (fun t ht => ?_) ?_ mm_fu (mm_fu_gt (by omega))⟩
      · have h5' : (k 5).toInt = 1 := by rw [h5, z1]
        obtain ⟨q1, q2⟩ := alike_1 hp h5' (x := nI t) (by rw [at_ t (by omega)]; omega)
        have j1 : ins k (nI t) 0 := by unfold ins; rw [z0, at_ t (by omega)]; omega
        have ee : (k 0 - 1 - nI t).toInt = (w : Int) - 1 - t := by rw [zz_s (by rw [e0, at_ t (by omega)]; omega) (by rw [e0, at_ t (by omega)]; omega), e0, at_ t (by omega)]
        have j2 : ins k (k 0 - 1 - nI t) 0 := by unfold ins; rw [z0, ee]; omega
        have j3 : ins k (nI t) (k 1 - 1) := by unfold ins; rw [at_ t (by omega)]; omega
        show ff_L_border_l280 M b (k 0) (k 1) cr a2 a3 1 (nI t) = _
        simp only [ff_L_border_l280, ff_L_border_j348, ff_L_border_j349, i_c hC, r_c4 hC, cells j1, cells j2, cells j3, Option.bind_some]
        rw [if_neg (by rw [zz_le, at_ t (by omega)]; omega), if_pos h5, if_neg (by decide), if_pos q1, if_pos q2, nI_1]
      · show ff_L_border_l280 M b (k 0) (k 1) cr a2 a3 1 (nI w) = _
        simp only [ff_L_border_l280]
        rw [if_pos (by rw [zz_le, at_ w (by omega)]; omega)]
    · refine ⟨0, it_for (body := mm_u2 (ff_L_border_l280 M b (k 0) (k 1) cr a2 a3)) (fun t => ((1 : Int32), nI t)) 0 _ (fun t ht => by omega) ?_ mm_fu (mm_fu_gt (by omega))⟩
      show ff_L_border_l280 M b (k 0) (k 1) cr a2 a3 1 0 = _
      simp only [ff_L_border_l280, i_c hC, r_c4 hC, Option.bind_some]
      rw [if_neg (by rw [zz_le, z0]; omega), if_neg h5]
  -- the end
  have hMEi := ME_i hp ew eh
  have hPA : a2 = 1 ↔ ((∀ t, t < w - 1 → PA k t) ∧ (∀ t, t < h - 1 → PB k t)) := by
    constructor
    · intro q
      rcases B2 with ⟨-, p1, p2⟩ | ⟨p1, -⟩
      · rcases A2 with ⟨-, -, p3⟩ | ⟨p3, -⟩
        · exact ⟨fun t ht => p3 t (by omega) ht, fun t ht => p2 t (by omega) ht⟩
        · rw [p3] at p1; exact absurd p1 (by decide)
      · rw [p1] at q; exact absurd q (by decide)
    · rintro ⟨q1, q2⟩
      rcases B2 with ⟨p1, -⟩ | ⟨-, p2⟩
      · exact p1
      · refine absurd ⟨?_, fun t _ ht => q2 t ht⟩ p2
        rcases A2 with ⟨p3, -⟩ | ⟨-, p3⟩
        · exact p3
        · exact absurd ⟨rfl, fun t _ ht => q1 t ht⟩ p3
  have hOne : a3 = 1 ↔ ∀ j : Nat, (j : Int) < (k 4).toInt → k (12 + j) = k 12 := by
    constructor
    · intro q j hj
      rcases C2 with ⟨-, -, p⟩ | ⟨p, -⟩
      · by_cases j0 : j = 0
        · rw [j0]
        · exact p j (by omega) (by omega)
      · rw [p] at q; exact absurd q (by decide)
    · intro q
      rcases C2 with ⟨p, -⟩ | ⟨-, p⟩
      · exact p
      · exact absurd ⟨rfl, fun t h1 h2 => q t (by omega)⟩ p
  have hME : ME k ↔ (a3 = 1 ∨ a2 = 1) := by
    unfold ME
    rw [hOne, hPA, hMEi]
  have ha2 : a2 = 0 ∨ a2 = 1 := by rcases B2 with ⟨q, -⟩ | ⟨q, -⟩; exact Or.inr q; exact Or.inl q
  have ha3 : a3 = 0 ∨ a3 = 1 := by rcases C2 with ⟨q, -⟩ | ⟨q, -⟩; exact Or.inr q; exact Or.inl q
  have shL := r_shadeL hC hp
  have b00 : bor k 0 0 := by unfold bor; rw [z0]; omega
  have b11 : bor k (k 0 - 1) (k 1 - 1) := by unfold bor; omega
  obtain ⟨r0, r1, r2⟩ := r_cell3 hC hp i00 b00
  obtain ⟨r3, r4, r5⟩ := r_cell3 hC hp i11 b11
  have er0 : r0 = 0 := by
    rw [zz_e, r2, z0]
    unfold bn
    rw [if_pos rfl]
  have er3 : r3 = k 0 + k 1 - 2 := by
    have ea : (k 0 + k 1).toInt = (w : Int) + h := by rw [zz_a (by omega) (by omega)]; omega
    rw [ew, eh, e0, e1] at r5
    rw [zz_e, r5, zz_s (by rw [ea, z2]; omega) (by rw [ea, z2]; omega), ea, z2]
    unfold bn
    rw [if_neg (by omega), if_pos rfl]
    omega
  rw [er0] at r1
  rw [er3] at r4
  have t395 : ∀ y : Int32, ff_L_border_j395 M b (k 0) (k 1) y y = some 1 := by
    intro y
    simp only [ff_L_border_j395, i_c hC, r_c3 hC, shL, r1, r4, Option.bind_some, if_true]
  have t370 : ff_L_border_j370 M b (k 0) (k 1) a2 a3 1 = some 1 := by
    simp (decide := true) only [ff_L_border_j370, ff_L_border_j390, i_c hC, if_false, Option.bind_some]
    rcases r_c5 hC hp with ⟨c5, c5'⟩ | ⟨c5, c5'⟩
    · rw [c5, Option.bind_some]
      by_cases q2 : a2 = 0
      · rw [if_pos q2]
        have q3 : a3 ≠ 0 := by
          rcases hME.mp c5' with q | q
          · rw [q]; decide
          · rw [q] at q2; exact absurd q2 (by decide)
        rw [if_neg q3]
        exact t395 1
      · rw [if_neg q2]
        exact t395 1
    · rw [c5, Option.bind_some]
      have q2 : a2 = 0 := by
        rcases ha2 with q | q
        · exact q
        · exact absurd (hME.mpr (Or.inr q)) c5'
      have q3 : a3 = 0 := by
        rcases ha3 with q | q
        · exact q
        · exact absurd (hME.mpr (Or.inl q)) c5'
      rw [if_pos q2, if_pos q3]
      exact t395 0
  simp only [ff_L_border_j75]
  rw [show mm_it (mm_u2 (ff_L_border_l83 M b (k 0) (k 1) (k 12) cr)) mm_fu ((1 : Int32), (0 : Int32)) = _ from A1, Option.bind_some]
  show Option.bind (mm_it (mm_u2 (ff_L_border_l158 M b (k 0) (k 1) (k 12) cr)) mm_fu (a1, (0 : Int32))) _ = _
  rw [show mm_it (mm_u2 (ff_L_border_l158 M b (k 0) (k 1) (k 12) cr)) mm_fu (a1, (0 : Int32)) = _ from B1, Option.bind_some]
  show Option.bind (mm_it (mm_u2 (ff_L_border_l236 M b (k 0) (k 1) (k 12) cr a2)) mm_fu ((1 : Int32), (1 : Int32))) _ = _
  rw [show mm_it (mm_u2 (ff_L_border_l236 M b (k 0) (k 1) (k 12) cr a2)) mm_fu ((1 : Int32), (1 : Int32)) = _ from C1, Option.bind_some]
  show Option.bind (mm_it (mm_u2 (ff_L_border_l280 M b (k 0) (k 1) cr a2 a3)) mm_fu ((1 : Int32), (0 : Int32))) _ = _
  rw [D1, Option.bind_some]
  show Option.bind (mm_ck 6 M b) _ = _
  rw [i_c hC, Option.bind_some, r_c4 hC, Option.bind_some]
  by_cases h5 : k 5 = 0
  · rw [if_pos h5]
    exact t370
  · rw [if_neg h5, cr3 (fun q => h5 (by rw [zz_e, q, z0])), if_neg (by decide)]
    exact t370
end BO
