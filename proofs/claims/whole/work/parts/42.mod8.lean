/-! the reference's whole memory: its object at y, its five arrays behind it -/
def Md (M : mm_M) (y : Nat) (m sp sv tx rd : Nat → Int32) (c tl : Nat) (rc : Int32) : Prop :=
  M y = some (.inl (7, [.ref (y + 1), .ref (y + 2), .ref (y + 3), .int (nI c), .ref (y + 4), .int (nI tl), .ref (y + 5), .int rc])) ∧ M (y + 1) = some (.inr (0, 518, .inl m)) ∧ M (y + 2) = some (.inr (0, 518, .inl sp)) ∧
  M (y + 3) = some (.inr (0, 2590, .inl sv)) ∧ M (y + 4) = some (.inr (0, 80, .inl tx)) ∧ M (y + 5) = some (.inr (0, 8, .inl rd))
/-- nothing but the reference's cells has changed -/
def Fy (y : Nat) (M M' : mm_M) : Prop := ∀ a, (a < y ∨ y + 6 ≤ a) → M' a = M a
theorem Fy_rf {y : Nat} {M : mm_M} : Fy y M M := fun _ _ => rfl
theorem Fy_tr {y : Nat} {M M1 M2 : mm_M} (h : Fy y M M1) (h2 : Fy y M1 M2) : Fy y M M2 := fun a ha => (h2 a ha).trans (h a ha)
theorem Fy_up {y a : Nat} {M : mm_M} {o : mm_O} (h1 : y ≤ a) (h2 : a < y + 6) : Fy y M (mm_up M a o) := fun q hq => mm_up_n M o (by omega)
section KD
variable {M : mm_M} {y c tl : Nat} {m sp sv tx rd : Nat → Int32} {rc : Int32}
theorem Md.mo (h : Md M y m sp sv tx rd c tl rc) : Mo M y m := ⟨⟨_, _, _, h.1⟩, h.2.1⟩
theorem Md_wm (h : Md M y m sp sv tx rd c tl rc) (m' : Nat → Int32) : Md (wm M y m') y m' sp sv tx rd c tl rc := by
  obtain ⟨h0, h1, h2, h3, h4, h5⟩ := h
  unfold wm
  refine ⟨?_, mm_up_s _ _ _, ?_, ?_, ?_, ?_⟩ <;> rw [mm_up_n _ _ (by omega)] <;> assumption
theorem Fy_wm (M : mm_M) (y : Nat) (m' : Nat → Int32) : Fy y M (wm M y m') := Fy_up (by omega) (by omega)
theorem Md_kept {M' : mm_M} (h : Md M y m sp sv tx rd c tl rc) (hM : ∀ a, y ≤ a → a < y + 6 → M' a = M a) : Md M' y m sp sv tx rd c tl rc := by
  obtain ⟨h0, h1, h2, h3, h4, h5⟩ := h
  refine ⟨?_, ?_, ?_, ?_, ?_, ?_⟩ <;> rw [hM _ (by omega) (by omega)] <;> assumption
theorem d_sv (h : Md M y m sp sv tx rd c tl rc) : mm_gI 7 M y 3 = some (nI c) := rI h.1 rfl
theorem d_tl (h : Md M y m sp sv tx rd c tl rc) : mm_gI 7 M y 5 = some (nI tl) := rI h.1 rfl
theorem d_rc (h : Md M y m sp sv tx rd c tl rc) : mm_gI 7 M y 7 = some rc := rI h.1 rfl
theorem d_r1 (h : Md M y m sp sv tx rd c tl rc) : mm_gR 7 M y 1 = some (y + 2) := rR h.1 rfl
theorem d_r2 (h : Md M y m sp sv tx rd c tl rc) : mm_gR 7 M y 2 = some (y + 3) := rR h.1 rfl
theorem d_r4 (h : Md M y m sp sv tx rd c tl rc) : mm_gR 7 M y 4 = some (y + 4) := rR h.1 rfl
theorem d_r6 (h : Md M y m sp sv tx rd c tl rc) : mm_gR 7 M y 6 = some (y + 5) := rR h.1 rfl
theorem d_wsv (h : Md M y m sp sv tx rd c tl rc) {v : Int32} {c' : Nat} (hv : v = nI c') : ∃ M', mm_pI 7 M y 3 v = some M' ∧ Md M' y m sp sv tx rd c' tl rc ∧ Fy y M M' := by
  subst hv
  obtain ⟨h0, h1, h2, h3, h4, h5⟩ := h
  refine ⟨_, wI h0 (by simp), ⟨by rw [mm_up_s]; rfl, ?_, ?_, ?_, ?_, ?_⟩, Fy_up (by omega) (by omega)⟩ <;> rw [mm_up_n _ _ (by omega)] <;> assumption
theorem d_wtl (h : Md M y m sp sv tx rd c tl rc) {v : Int32} {t' : Nat} (hv : v = nI t') : ∃ M', mm_pI 7 M y 5 v = some M' ∧ Md M' y m sp sv tx rd c t' rc ∧ Fy y M M' := by
  subst hv
  obtain ⟨h0, h1, h2, h3, h4, h5⟩ := h
  refine ⟨_, wI h0 (by simp), ⟨by rw [mm_up_s]; rfl, ?_, ?_, ?_, ?_, ?_⟩, Fy_up (by omega) (by omega)⟩ <;> rw [mm_up_n _ _ (by omega)] <;> assumption
theorem d_wrc (h : Md M y m sp sv tx rd c tl rc) (v : Int32) : ∃ M', mm_pI 7 M y 7 v = some M' ∧ Md M' y m sp sv tx rd c tl v ∧ Fy y M M' := by
  obtain ⟨h0, h1, h2, h3, h4, h5⟩ := h
  refine ⟨_, wI h0 (by simp), ⟨by rw [mm_up_s]; rfl, ?_, ?_, ?_, ?_, ?_⟩, Fy_up (by omega) (by omega)⟩ <;> rw [mm_up_n _ _ (by omega)] <;> assumption
theorem d_svA (h : Md M y m sp sv tx rd c tl rc) (g : Nat → Int32) : Md (mm_up M (y + 3) (.inr (0, 2590, .inl g))) y m sp g tx rd c tl rc := by
  obtain ⟨h0, h1, h2, h3, h4, h5⟩ := h
  refine ⟨?_, ?_, ?_, mm_up_s _ _ _, ?_, ?_⟩ <;> rw [mm_up_n _ _ (by omega)] <;> assumption
theorem d_spA (h : Md M y m sp sv tx rd c tl rc) (g : Nat → Int32) : Md (mm_up M (y + 2) (.inr (0, 518, .inl g))) y m g sv tx rd c tl rc := by
  obtain ⟨h0, h1, h2, h3, h4, h5⟩ := h
  refine ⟨?_, ?_, mm_up_s _ _ _, ?_, ?_, ?_⟩ <;> rw [mm_up_n _ _ (by omega)] <;> assumption
theorem d_txA (h : Md M y m sp sv tx rd c tl rc) (g : Nat → Int32) : Md (mm_up M (y + 4) (.inr (0, 80, .inl g))) y m sp sv g rd c tl rc := by
  obtain ⟨h0, h1, h2, h3, h4, h5⟩ := h
  refine ⟨?_, ?_, ?_, ?_, mm_up_s _ _ _, ?_⟩ <;> rw [mm_up_n _ _ (by omega)] <;> assumption
theorem d_rdA (h : Md M y m sp sv tx rd c tl rc) (g : Nat → Int32) : Md (mm_up M (y + 5) (.inr (0, 8, .inl g))) y m sp sv tx g c tl rc := by
  obtain ⟨h0, h1, h2, h3, h4, h5⟩ := h
  refine ⟨?_, ?_, ?_, ?_, ?_, mm_up_s _ _ _⟩ <;> rw [mm_up_n _ _ (by omega)] <;> assumption
end KD
theorem up_self {M : mm_M} {a : Nat} {o : mm_O} (h : M a = some o) : mm_up M a o = M := by
  funext q
  by_cases hq : q = a
  · subst hq; rw [mm_up_s]; exact h.symm
  · rw [mm_up_n _ _ hq]
/-- g with the first t of f's values from q on -/
def cp2 (q : Nat) (f g : Nat → Int32) (t : Nat) : Nat → Int32 := fun j => if q ≤ j ∧ j < q + t then f (j - q) else g j
theorem cp2_0 (q : Nat) (f g : Nat → Int32) : cp2 q f g 0 = g := by
  funext j
  unfold cp2
  rw [if_neg (by omega)]
theorem cp2_s (q : Nat) (f g : Nat → Int32) (t : Nat) : upd (cp2 q f g t) (q + t) (f t) = cp2 q f g (t + 1) := by
  funext j
  unfold upd cp2
  by_cases hj : j = q + t
  · rw [if_pos hj, if_pos (by omega), hj, Nat.add_sub_cancel_left]
  · rw [if_neg hj]
    by_cases hj2 : q ≤ j ∧ j < q + t
    · rw [if_pos hj2, if_pos (by omega)]
    · rw [if_neg hj2, if_neg (by omega)]
theorem cp2_i (q : Nat) (f g : Nat → Int32) {t j : Nat} (h : j < t) : cp2 q f g t (q + j) = f j := by
  unfold cp2
  rw [if_pos (by omega), Nat.add_sub_cancel_left]
theorem cp2_o (q : Nat) (f g : Nat → Int32) {t j : Nat} (h : j < q ∨ q + t ≤ j) : cp2 q f g t j = g j := by
  unfold cp2
  rw [if_neg (by omega)]
/-- a page from one array into another -/
theorem brings {M : mm_M} {a b na nb p q : Nat} {f g : Nat → Int32} (ha : M a = some (.inr (0, na, .inl f))) (hb : M b = some (.inr (0, nb, .inl g))) (hab : a ≠ b) (hp : p + 518 ≤ na) (hq : q + 518 ≤ nb) (hna : na ≤ 5000) (hnb : nb ≤ 5000) {P Q : Int32} (eP : P.toInt = p) (eQ : Q.toInt = q) :
    ∃ g', ff_X7_bring M a P b Q = some (mm_up M b (.inr (0, nb, .inl g'))) ∧ (∀ j, j < 518 → g' (q + j) = f (p + j)) ∧ ∀ j, (j < q ∨ q + 518 ≤ j) → g' j = g j := by
  have := it_for (body := mm_u2 (ff_X7_bring_l3 a P b Q)) (fun t => (nI t, mm_up M b (.inr (0, nb, .inl (cp2 q (fun j => f (p + j)) g t))))) 518 (nI 518, mm_up M b (.inr (0, nb, .inl (cp2 q (fun j => f (p + j)) g 518)))) (by
    intro t ht
    have et := zz_nI t (by omega)
    show ff_X7_bring_l3 a P b Q (nI t) _ = _
    have e1 : (P + nI t).toInt = ((p + t : Nat) : Int) := by rw [zz_a (by omega) (by omega), eP, et]; omega
    have e2 : (Q + nI t).toInt = ((q + t : Nat) : Int) := by rw [zz_a (by omega) (by omega), eQ, et]; omega
    simp only [ff_X7_bring_l3]
    rw [if_neg (by rw [zz_le, et]; show ¬ (518 : Int) ≤ _; omega), rA (by rw [mm_up_n _ _ hab]; exact ha) (by omega) (by omega), Option.bind_some, wA (mm_up_s _ _ _) (by omega) (by omega), Option.bind_some, up_up, nI_1, e1, e2, Int.toNat_natCast, Int.toNat_natCast]
    have hf := cp2_s q (fun j => f (p + j)) g t
    rw [← hf]) (by
    show ff_X7_bring_l3 a P b Q (nI 518) _ = _
    simp only [ff_X7_bring_l3]
    rw [if_pos (by decide)]) mm_fu (mm_fu_gt (by omega))
  rw [cp2_0, up_self hb] at this
  refine ⟨_, ?_, fun j hj => cp2_i q (fun j => f (p + j)) g hj, fun j hj => cp2_o q (fun j => f (p + j)) g hj⟩
  simp only [ff_X7_bring, show mm_it (mm_u2 (ff_X7_bring_l3 a P b Q)) mm_fu ((0 : Int32), M) = _ from this, Option.bind_some]
  rfl
theorem z518 : (518 : Int32).toInt = 518 := rfl
theorem z2072 : (2072 : Int32).toInt = 2072 := rfl
section KE
variable {M : mm_M} {y c tl : Nat} {m sp sv tx rd : Nat → Int32} {rc : Int32}
theorem d_keep49 (h : Md M y m sp sv tx rd c tl rc) (hc : c < 5) : ∃ M' sv', ff_X7_keep_j49 M y = some M' ∧ Md M' y m sp sv' tx rd (c + 1) tl rc ∧ Fy y M M' ∧ (∀ j, j < 518 → sv' (518 * c + j) = m j) ∧ ∀ j, j < 518 * c → sv' j = sv j := by
  have ec := zz_nI c (by omega)
  have e5 : (518 * nI c).toInt = ((518 * c : Nat) : Int) := by rw [zz_m (by rw [z518]; omega) (by rw [z518]; omega), z518, ec]; omega
  obtain ⟨g, g1, g2, g3⟩ := brings (p := 0) (q := 518 * c) h.2.1 h.2.2.2.1 (show y + 1 ≠ y + 3 by omega) (by omega) (by omega) (by omega) (by omega) (P := 0) (Q := 518 * nI c) rfl e5
  have h2 := d_svA h g
  obtain ⟨M', p1, p2, p3⟩ := d_wsv h2 (v := nI c + 1) (c' := c + 1) (nI_1 c)
  refine ⟨M', g, ?_, p2, Fy_tr (Fy_up (by omega) (by omega)) p3, fun j hj => by rw [g2 j hj, Nat.zero_add], fun j hj => g3 j (by omega)⟩
  simp only [ff_X7_keep_j49, n_m h.mo, d_r2 h, d_sv h, g1, d_sv h2, p1, Option.bind_some]
theorem d_shift (h : Md M y m sp sv tx rd c tl rc) : ∃ sv', mm_it (mm_u2 (ff_X7_keep_l10 y)) mm_fu ((0 : Int32), M) = some (nI 2072, mm_up M (y + 3) (.inr (0, 2590, .inl sv'))) ∧ ∀ j, j < 2072 → sv' j = sv (j + 518) := by
  have := it_for (body := mm_u2 (ff_X7_keep_l10 y)) (fun t => (nI t, mm_up M (y + 3) (.inr (0, 2590, .inl (cp2 0 (fun j => sv (j + 518)) sv t))))) 2072 (nI 2072, mm_up M (y + 3) (.inr (0, 2590, .inl (cp2 0 (fun j => sv (j + 518)) sv 2072)))) (by
    intro t ht
    have et := zz_nI t (by omega)
    have h2 := d_svA h (cp2 0 (fun j => sv (j + 518)) sv t)
    show ff_X7_keep_l10 y (nI t) _ = _
    have e1 : (nI t + 518).toInt = ((t + 518 : Nat) : Int) := by rw [zz_a (by rw [z518]; omega) (by rw [z518]; omega), z518, et]; omega
    simp only [ff_X7_keep_l10, d_r2 h2, Option.bind_some]
    rw [if_neg (by rw [zz_le, et, z2072]; omega), rA (mm_up_s _ _ _) (by omega) (by omega), Option.bind_some, wA (mm_up_s _ _ _) (by omega) (by omega), Option.bind_some, up_up, nI_1, e1, et, Int.toNat_natCast, Int.toNat_natCast, cp2_o 0 (fun j => sv (j + 518)) sv (t := t) (j := t + 518) (by omega)]
    have hf := cp2_s 0 (fun j => sv (j + 518)) sv t
    rw [Nat.zero_add] at hf
    rw [← hf]) (by
    show ff_X7_keep_l10 y (nI 2072) _ = _
    simp only [ff_X7_keep_l10]
    rw [if_pos (by decide)]) mm_fu (mm_fu_gt (by omega))
  rw [cp2_0, up_self h.2.2.2.1] at this
  exact ⟨_, this, fun j hj => by have := cp2_i 0 (fun j => sv (j + 518)) sv hj; rw [Nat.zero_add] at this; exact this⟩
theorem d_keep (h : Md M y m sp sv tx rd c tl rc) (hc : c ≤ 5) : ∃ M' sv', ff_X7_keep M y = some M' ∧ Md M' y m sp sv' tx rd (if c < 5 then c + 1 else 5) tl rc ∧ Fy y M M' ∧
    ∀ i, i < (if c < 5 then c + 1 else 5) → ∀ j, j < 518 → sv' (518 * i + j) = (if c < 5 then (if i = c then m j else sv (518 * i + j)) else (if i = 4 then m j else sv (518 * (i + 1) + j))) := by
  have ec := zz_nI c (by omega)
  by_cases h5 : c < 5
  · obtain ⟨M', sv', k1, k2, k3, k4, k5⟩ := d_keep49 h h5
    refine ⟨M', sv', ?_, by rw [if_pos h5]; exact k2, k3, fun i hi j hj => ?_⟩
    · simp only [ff_X7_keep, d_sv h, Option.bind_some]
      rw [if_neg (by rw [zz_e, z5]; omega), k1]
    · rw [if_pos h5] at hi ⊢
      by_cases hic : i = c
      · rw [if_pos hic, hic, k4 j hj]
      · rw [if_neg hic, k5 _ (by omega)]
  · have : c = 5 := by omega
    subst this
    obtain ⟨s1, a1, a2⟩ := d_shift h
    have h2 := d_svA h s1
    obtain ⟨M2, p1, p2, p3⟩ := d_wsv h2 (v := nI 5 - 1) (c' := 4) rfl
    obtain ⟨M', sv', k1, k2, k3, k4, k5⟩ := d_keep49 p2 (by omega)
    refine ⟨M', sv', ?_, by rw [if_neg (by omega)]; exact k2, Fy_tr (Fy_tr (Fy_up (by omega) (by omega)) p3) k3, fun i hi j hj => ?_⟩
    · simp only [ff_X7_keep, d_sv h, Option.bind_some]
      rw [if_pos (by decide), a1, Option.bind_some]
      show Option.bind (mm_gI 7 (mm_up M (y + 3) (.inr (0, 2590, .inl s1))) y 3) _ = _
      rw [d_sv h2, Option.bind_some, p1, Option.bind_some, k1]
    · rw [if_neg (by omega)] at hi ⊢
      by_cases hic : i = 4
      · rw [if_pos hic, hic, k4 j hj]
      · rw [if_neg hic, k5 _ (by omega), a2 _ (by omega)]
        congr 1
        omega
/-- back to the page that was kept last -/
theorem d_undo (h : Md M y m sp sv tx rd c tl rc) (hc : c ≤ 5) (h0 : 0 < c) : ∃ M' m', ff_X7_undo M y = some (nI (c - 1), M') ∧ Md M' y m' sp sv tx rd (c - 1) tl rc ∧ Fy y M M' ∧ ∀ j, j < 518 → m' j = sv (518 * (c - 1) + j) := by
  have ec := zz_nI c (by omega)
  have e1 : nI c - 1 = nI (c - 1) := zz_nn (by rw [zz_s (by rw [z1]; omega) (by rw [z1]; omega), z1]; omega)
  have ec1 := zz_nI (c - 1) (by omega)
  obtain ⟨M1, p1, p2, p3⟩ := d_wsv h (v := nI c - 1) (c' := c - 1) e1
  have e5 : (518 * nI (c - 1)).toInt = ((518 * (c - 1) : Nat) : Int) := by rw [zz_m (by rw [z518]; omega) (by rw [z518]; omega), z518, ec1]; omega
  obtain ⟨g, g1, g2, g3⟩ := brings (p := 518 * (c - 1)) (q := 0) p2.2.2.2.1 p2.2.1 (show y + 3 ≠ y + 1 by omega) (by omega) (by omega) (by omega) (by omega) (P := 518 * nI (c - 1)) (Q := 0) e5 rfl
  have h2 := Md_wm p2 g
  refine ⟨_, g, ?_, h2, Fy_tr p3 (Fy_wm _ _ _), fun j hj => by have := g2 j hj; rw [Nat.zero_add] at this; exact this⟩
  simp only [ff_X7_undo, d_sv h, Option.bind_some]
  rw [if_neg (by rw [zz_e, z0]; omega)]
  simp only [d_sv h, p1, d_r2 p2, n_m p2.mo, d_sv p2, g1, Option.bind_some]
  show Option.bind (mm_gI 7 (wm M1 y g) y 3) _ = _
  rw [d_sv h2, Option.bind_some]
  rfl
theorem d_undo0 (h : Md M y m sp sv tx rd 0 tl rc) : ff_X7_undo M y = some (-2, M) := by
  simp only [ff_X7_undo, d_sv h, Option.bind_some]
  rw [if_pos (by decide)]
end KE
