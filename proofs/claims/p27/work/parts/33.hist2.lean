/-! the history: an object at a, its array at a + 1, five States from a + 2 on -/
/-- used states, the array's order, the five pages -/
def Hi (M : mm_M) (a u : Nat) (sa : Nat → Nat) (pg : Nat → Nat → Int32) : Prop :=
  M a = some (.inl (0, [.ref (a + 1), .int (nI u)])) ∧ (∃ f : Nat → Option Nat, M (a + 1) = some (.inr (3, 5, .inr f)) ∧ ∀ i, i < 5 → f i = some (a + 2 + 28 * sa i)) ∧
  (∀ i, i < 5 → sa i < 5) ∧ (∀ i j, i < 5 → j < 5 → sa i = sa j → i = j) ∧ ∀ i, i < 5 → St M (a + 2 + 28 * sa i) (pg i)
/-- nothing but the history's cells has changed -/
def Fa (a : Nat) (M M' : mm_M) : Prop := ∀ q, (q < a ∨ a + 142 ≤ q) → M' q = M q
theorem Fa_rf {a : Nat} {M : mm_M} : Fa a M M := fun _ _ => rfl
theorem Fa_tr {a : Nat} {M M1 M2 : mm_M} (h : Fa a M M1) (h2 : Fa a M1 M2) : Fa a M M2 := fun q hq => (h2 q hq).trans (h q hq)
theorem Fa_up {a q : Nat} {M : mm_M} {o : mm_O} (h1 : a ≤ q) (h2 : q < a + 142) : Fa a M (mm_up M q o) := fun x hx => mm_up_n M o (by omega)
theorem Fa_z {a i : Nat} {M M' : mm_M} (hi : i < 5) (h : Fz (a + 2 + 28 * i) M M') : Fa a M M' := fun q hq => h q (by omega)
section HI
variable {M : mm_M} {a u : Nat} {sa : Nat → Nat} {pg : Nat → Nat → Int32}
theorem h_ref (h : Hi M a u sa pg) : mm_gR 0 M a 0 = some (a + 1) := rR h.1 rfl
theorem h_use (h : Hi M a u sa pg) : mm_gI 0 M a 1 = some (nI u) := rI h.1 rfl
theorem h_ck (h : Hi M a u sa pg) : mm_ck 0 M a = some () := rC h.1
theorem h_ln (h : Hi M a u sa pg) : mm_ln M (a + 1) = some 5 := by
  obtain ⟨-, ⟨f, h1, h2⟩, -⟩ := h
  exact rL h1 (by decide)
theorem h_at (h : Hi M a u sa pg) {i : Nat} (hi : i < 5) : mm_aR 3 M (a + 1) (nI i) = some (a + 2 + 28 * sa i) := by
  obtain ⟨-, ⟨f, h1, h2⟩, -⟩ := h
  have e := zz_nI i (by omega)
  exact rQ h1 (by omega) (by omega) (by rw [e]; simp only [Int.toNat_natCast]; exact h2 i hi)
theorem z5 : (5 : Int32).toInt = 5 := rfl
/-- a cell outside the states is written -/
theorem Hi_st (h : Hi M a u sa pg) {q : Nat} {o : mm_O} (hq : q < a + 2) : ∀ i, i < 5 → St (mm_up M q o) (a + 2 + 28 * sa i) (pg i) := fun i hi => St_kept (h.2.2.2.2 i hi) (fun b h1 h2 => mm_up_n _ _ (by omega))
/-- the order when the oldest has been dropped -/
def rot {α : Type} (s : Nat → α) : Nat → α := fun i => if i < 4 then s (i + 1) else s 0
theorem h_drop (h : Hi M a u sa pg) (hu : 0 < u) (hu5 : u ≤ 5) : ∃ M', ff_X0_dropOldest M a = some M' ∧ Hi M' a (u - 1) (rot sa) (rot pg) ∧ Fa a M M' := by
  obtain ⟨h1, ⟨f, h2, h3⟩, h4, h5, h6⟩ := id h
  have eu := zz_nI u (by omega)
  -- what the array holds after t steps
  obtain ⟨⟨x, M1⟩, g1, f1, g2, g3⟩ := it_inv (body := mm_u2 (ff_X0_dropOldest_l2 a)) (fun t (st : Int32 × mm_M) => st.1 = nI (t + 1) ∧ ∃ f' : Nat → Option Nat, st.2 = mm_up M (a + 1) (.inr (3, 5, .inr f')) ∧ ∀ i, i < 5 → f' i = some (a + 2 + 28 * (if i < t then sa (i + 1) else if i = t then sa 0 else sa i)))
    (fun e => ∃ f' : Nat → Option Nat, e.2 = mm_up M (a + 1) (.inr (3, 5, .inr f')) ∧ ∀ i, i < 5 → f' i = some (a + 2 + 28 * (if i < 4 then sa (i + 1) else if i = 4 then sa 0 else sa i))) 4 (by
      rintro t ⟨x, M'⟩ ht ⟨hx, f', hM, hf⟩
      dsimp only at hx hM
      subst hx; subst hM
      have et := zz_nI (t + 1) (by omega)
      have e1 : (nI (t + 1) - 1).toInt = t := by rw [zz_s (by rw [z1]; omega) (by rw [z1]; omega), z1]; omega
      have hr : ∀ f'' : Nat → Option Nat, mm_gR 0 (mm_up M (a + 1) (.inr (3, 5, .inr f''))) a 0 = some (a + 1) := fun f'' => rR (by rw [mm_up_n _ _ (by omega)]; exact h1) rfl
      have ha : mm_aR 3 (mm_up M (a + 1) (.inr (3, 5, .inr f'))) (a + 1) (nI (t + 1)) = some (a + 2 + 28 * sa (t + 1)) := rQ (mm_up_s _ _ _) (by omega) (by omega) (by rw [et]; simp only [Int.toNat_natCast]; rw [hf (t + 1) (by omega), if_neg (by omega), if_neg (by omega)])
      have ha0 : mm_aR 3 (mm_up M (a + 1) (.inr (3, 5, .inr f'))) (a + 1) (nI (t + 1) - 1) = some (a + 2 + 28 * sa 0) := rQ (mm_up_s _ _ _) (by omega) (by omega) (by rw [e1]; simp only [Int.toNat_natCast]; rw [hf t (by omega), if_neg (by omega), if_pos rfl])
      have hck : ∀ (f'' : Nat → Option Nat) (i : Nat), i < 5 → mm_ck 2 (mm_up M (a + 1) (.inr (3, 5, .inr f''))) (a + 2 + 28 * sa i) = some () := fun f'' i hi => c_s (Hi_st h (by omega) i hi)
      refine Or.inl ⟨(nI (t + 1 + 1), mm_up M (a + 1) (.inr (3, 5, .inr (va_up (va_up f' t (some (a + 2 + 28 * sa (t + 1)))) (t + 1) (some (a + 2 + 28 * sa 0)))))), ?_, rfl, _, rfl, fun i hi => ?_⟩
      · show ff_X0_dropOldest_l2 a (nI (t + 1)) _ = _
        simp only [ff_X0_dropOldest_l2, hr, rL (mm_up_s M (a + 1) (.inr (3, 5, .inr f'))) (by decide), ha, ha0, Option.bind_some]
        rw [if_neg (by rw [zz_le, show (Int32.ofNat 5).toInt = 5 from rfl]; omega)]
        have hs : mm_sR 3 2 (mm_up M (a + 1) (.inr (3, 5, .inr f'))) (a + 1) (nI (t + 1) - 1) (a + 2 + 28 * sa (t + 1)) = some (mm_up M (a + 1) (.inr (3, 5, .inr (va_up f' t (some (a + 2 + 28 * sa (t + 1))))))) := by
          simp only [mm_sR, mm_up_s]
          rw [if_pos ⟨trivial, by omega, by omega, hck f' (t + 1) (by omega)⟩, up_up, zz_cl, e1]
          rfl
        have hs2 : mm_sR 3 2 (mm_up M (a + 1) (.inr (3, 5, .inr (va_up f' t (some (a + 2 + 28 * sa (t + 1))))))) (a + 1) (nI (t + 1)) (a + 2 + 28 * sa 0) = some (mm_up M (a + 1) (.inr (3, 5, .inr (va_up (va_up f' t (some (a + 2 + 28 * sa (t + 1)))) (t + 1) (some (a + 2 + 28 * sa 0)))))) := by
          simp only [mm_sR, mm_up_s]
          rw [if_pos ⟨trivial, by omega, by omega, hck _ 0 (by omega)⟩, up_up, zz_cl, et]
          rfl
        simp only [hs, hr, hs2, Option.bind_some]
        rw [nI_1 (t + 1)]
      · by_cases hit : i = t + 1
        · subst hit
          rw [va_up_self, if_neg (by omega), if_pos rfl]
        · rw [va_up_ne _ _ hit]
          by_cases hit : i = t
          · subst hit
            rw [va_up_self, if_pos (by omega)]
          · rw [va_up_ne _ _ hit, hf i hi]
            by_cases hlt : i < t
            · rw [if_pos hlt, if_pos (by omega)]
            · rw [if_neg hlt, if_neg (by omega), if_neg (by omega), if_neg (by omega)]) (by
      rintro ⟨x, M'⟩ ⟨hx, f', hM, hf⟩
      dsimp only at hx hM
      subst hx; subst hM
      have hr : mm_gR 0 (mm_up M (a + 1) (.inr (3, 5, .inr f'))) a 0 = some (a + 1) := rR (by rw [mm_up_n _ _ (by omega)]; exact h1) rfl
      refine ⟨(nI (4 + 1), mm_up M (a + 1) (.inr (3, 5, .inr f'))), ?_, f', rfl, hf⟩
      show ff_X0_dropOldest_l2 a (nI (4 + 1)) _ = _
      simp only [ff_X0_dropOldest_l2, hr, rL (mm_up_s M (a + 1) (.inr (3, 5, .inr f'))) (by decide), Option.bind_some]
      rw [if_pos (by decide)]) ((1 : Int32), M) mm_fu (mm_fu_gt (by omega)) ⟨rfl, f, by
        funext q
        by_cases hq : q = a + 1
        · subst hq; rw [mm_up_s]; exact h2
        · rw [mm_up_n _ _ hq], fun i hi => by
          rw [h3 i hi, if_neg (by omega)]
          by_cases h0 : i = 0
          · subst h0; rw [if_pos rfl]
          · rw [if_neg h0]⟩
  dsimp only at g2
  subst g2
  have h1' : mm_up M (a + 1) (.inr (3, 5, .inr f1)) a = some (.inl (0, [.ref (a + 1), .int (nI u)])) := by rw [mm_up_n _ _ (by omega)]; exact h1
  refine ⟨mm_up (mm_up M (a + 1) (.inr (3, 5, .inr f1))) a (.inl (0, [.ref (a + 1), .int (nI (u - 1))])), ?_, ⟨mm_up_s _ _ _, ⟨_, by rw [mm_up_n _ _ (by omega), mm_up_s], fun i hi => ?_⟩, fun i hi => ?_, fun i j hi hj hij => ?_, fun i hi => ?_⟩, Fa_tr (Fa_up (by omega) (by omega)) (Fa_up (by omega) (by omega))⟩
  · simp only [ff_X0_dropOldest, g1, Option.bind_some]
    show Option.bind (mm_gI 0 (mm_up M (a + 1) (.inr (3, 5, .inr f1))) a 1) _ = _
    simp only [rI h1' (k := 1) rfl, wI h1' (k := 1) (by simp), Option.bind_some]
    have : nI u - 1 = nI (u - 1) := by
      obtain ⟨w, rfl⟩ : ∃ w, u = w + 1 := ⟨u - 1, by omega⟩
      rw [nI_pred]
      rfl
    rw [this]
    rfl
  · unfold rot
    rw [g3 i hi]
    by_cases h4i : i = 4
    · subst h4i
      rw [if_neg (by omega), if_pos rfl, if_neg (by omega)]
    · rw [if_pos (by omega), if_pos (by omega)]
  · unfold rot
    split
    · exact h4 _ (by omega)
    · exact h4 _ (by omega)
  · unfold rot at hij
    split at hij <;> split at hij
    · have := h5 _ _ (by omega) (by omega) hij; omega
    · have := h5 _ _ (by omega) (by omega) hij; omega
    · have := h5 _ _ (by omega) (by omega) hij; omega
    · omega
  · have key : ∀ j, j < 5 → St (mm_up (mm_up M (a + 1) (.inr (3, 5, .inr f1))) a (.inl (0, [.ref (a + 1), .int (nI (u - 1))]))) (a + 2 + 28 * sa j) (pg j) := fun j hj => St_kept (h6 j hj) (fun b b1 b2 => by rw [mm_up_n _ _ (by omega), mm_up_n _ _ (by omega)])
    unfold rot
    split
    · exact key _ (by omega)
    · exact key _ (by omega)
/-- a State at z, outside, is kept -/
theorem h_keep16 (h : Hi M a u sa pg) (hu : u < 5) {z : Nat} {k : Nat → Int32} (hz : St M z k) (hd : z + 28 ≤ a ∨ a + 142 ≤ z) : ∃ M', ff_X0_keep_j16 M a z = some M' ∧ Hi M' a (u + 1) sa (fun i => if i = u then k else pg i) ∧ Fa a M M' := by
  obtain ⟨h1, ⟨f, h2, h3⟩, h4, h5, h6⟩ := id h
  have eu := zz_nI u (by omega)
  have hsu := h4 u hu
  obtain ⟨M1, c1, c2, c3⟩ := v_copy (h6 u hu) hz (by omega)
  have h1' : M1 a = some (.inl (0, [.ref (a + 1), .int (nI u)])) := by rw [c3 a (by omega)]; exact h1
  refine ⟨mm_up M1 a (.inl (0, [.ref (a + 1), .int (nI (u + 1))])), ?_, ⟨mm_up_s _ _ _, ⟨f, by rw [mm_up_n _ _ (by omega), c3 _ (by omega)]; exact h2, h3⟩, h4, h5, fun i hi => ?_⟩, Fa_tr (Fa_z (h4 u hu) c3) (Fa_up (by omega) (by omega))⟩
  · simp only [ff_X0_keep_j16, h_use h, h_ref h, h_ln h, h_at h hu, c_s (h6 u hu), c1, rI h1' (k := 1) rfl, wI h1' (k := 1) (by simp), Option.bind_some]
    rw [if_neg (by rw [zz_lt, z0]; omega), if_neg (by rw [zz_le, z5]; omega), nI_1]
    rfl
  · by_cases hiu : i = u
    · subst hiu
      show St _ _ (if i = i then k else pg i)
      rw [if_pos rfl]
      exact St_kept c2 (fun b b1 b2 => mm_up_n _ _ (by omega))
    · show St _ _ (if i = u then k else pg i)
      rw [if_neg hiu]
      have hne : sa i ≠ sa u := fun q => hiu (h5 i u hi hu q)
      exact St_kept (h6 i hi) (fun b b1 b2 => by rw [mm_up_n _ _ (by omega), c3 _ (by omega)])
theorem h_keep (h : Hi M a u sa pg) (hu : u ≤ 5) {z : Nat} {k : Nat → Int32} (hz : St M z k) (hd : z + 28 ≤ a ∨ a + 142 ≤ z) : ∃ M' sa', ff_X0_keep M a z = some M' ∧ Hi M' a (if u < 5 then u + 1 else 5) sa' (if u < 5 then (fun i => if i = u then k else pg i) else (fun i => if i = 4 then k else rot pg i)) ∧ Fa a M M' := by
  have eu := zz_nI u (by omega)
  by_cases hc : u < 5
  · obtain ⟨M1, c1, c2, c3⟩ := h_keep16 h hc hz hd
    refine ⟨M1, sa, ?_, by rw [if_pos hc, if_pos hc]; exact c2, c3⟩
    simp only [ff_X0_keep, h_use h, h_ref h, h_ln h, Option.bind_some]
    rw [if_pos (by rw [zz_lt, z5]; omega)]
    exact c1
  · have hu5 : u = 5 := by omega
    subst hu5
    obtain ⟨M1, c1, c2, c3⟩ := h_drop h (by omega) (by omega)
    have hz1 : St M1 z k := St_kept hz (fun b b1 b2 => c3 b (by omega))
    obtain ⟨M2, d1, d2, d3⟩ := h_keep16 c2 (by omega) hz1 hd
    refine ⟨M2, rot sa, ?_, by rw [if_neg hc, if_neg hc]; exact d2, Fa_tr c3 d3⟩
    simp only [ff_X0_keep, h_use h, h_ref h, h_ln h, h_ck h, c1, Option.bind_some]
    rw [if_neg (by rw [zz_lt, z5]; omega)]
    exact d1
theorem h_rest (h : Hi M a u sa pg) (hu0 : 0 < u) (hu : u ≤ 5) {z : Nat} {k : Nat → Int32} (hz : St M z k) (hd : z + 28 ≤ a ∨ a + 142 ≤ z) : ∃ M', ff_X0_restore M a z = some M' ∧ Hi M' a (u - 1) sa pg ∧ St M' z (pg (u - 1)) ∧ (∀ q, (q < a ∨ a + 142 ≤ q) → (q < z ∨ z + 28 ≤ q) → M' q = M q) := by
  obtain ⟨h1, ⟨f, h2, h3⟩, h4, h5, h6⟩ := id h
  have eu := zz_nI u (by omega)
  have eu1 : nI u - 1 = nI (u - 1) := by
    obtain ⟨w, rfl⟩ : ∃ w, u = w + 1 := ⟨u - 1, by omega⟩
    rw [nI_pred]
    rfl
  have hH : Hi (mm_up M a (.inl (0, [.ref (a + 1), .int (nI (u - 1))]))) a (u - 1) sa pg := ⟨mm_up_s _ _ _, ⟨f, by rw [mm_up_n _ _ (by omega)]; exact h2, h3⟩, h4, h5, Hi_st h (by omega)⟩
  have hz1 : St (mm_up M a (.inl (0, [.ref (a + 1), .int (nI (u - 1))]))) z k := St_kept hz (fun b b1 b2 => mm_up_n _ _ (by omega))
  have hsu := h4 (u - 1) (by omega)
  obtain ⟨M1, c1, c2, c3⟩ := v_copy hz1 (hH.2.2.2.2 (u - 1) (by omega)) (by omega)
  refine ⟨M1, ?_, ⟨by rw [c3 a (by omega)]; exact hH.1, ⟨f, by rw [c3 _ (by omega)]; rw [mm_up_n _ _ (by omega)]; exact h2, h3⟩, h4, h5, fun i hi => St_kept (hH.2.2.2.2 i hi) (fun b b1 b2 => c3 b (by have := h4 i hi; omega))⟩, c2, fun q q1 q2 => by rw [c3 q (by omega), mm_up_n _ _ (by omega)]⟩
  have hw : mm_pI 0 M a 1 (nI (u - 1)) = some (mm_up M a (.inl (0, [.ref (a + 1), .int (nI (u - 1))]))) := wI h1 (k := 1) (by simp)
  simp only [ff_X0_restore, h_use h, h_ref h, h_ln h, eu1, hw, h_ref hH, h_use hH, h_at hH (i := u - 1) (by omega), c_s hz1, c1, Option.bind_some]
  rw [if_neg (by rw [zz_le, z0]; omega), if_neg (by rw [zz_lt, z5]; omega)]
end HI
