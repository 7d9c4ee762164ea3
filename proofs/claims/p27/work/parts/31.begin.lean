/-! whole arrays are written: a floor begins; strips come, get flaws; tesserae are thrown away -/
theorem y_w {M : mm_M} {z : Nat} {k : Nat → Int32} (h : St M z k) {v g : Nat → Int32} (hg : ∀ j, j < 144 → g j = v (20 + j)) : St (mm_up M (z + 2) (.inr (0, 144, .inl g))) z (fun j => if 20 ≤ j ∧ j < 164 then v j else k j) ∧ Fz z M (mm_up M (z + 2) (.inr (0, 144, .inl g))) := by
  obtain ⟨h0, h1, h2, h3, h4, h5, h6, h7, h8⟩ := h
  exact ⟨⟨by rw [mm_up_n _ _ (by omega)]; exact h0, by rw [mm_up_n _ _ (by omega)]; exact h1, ⟨g, mm_up_s _ _ _, fun j hj => (hg j hj).trans (if_pos (by omega)).symm⟩, px_k h3 (by omega) (fun j _ _ => if_neg (by omega)), by rw [mm_up_n _ _ (by omega)]; exact h4, pR_n h5 (by omega), px_k h6 (by omega) (fun j _ _ => if_neg (by omega)), px_k h7 (by omega) (fun j _ _ => if_neg (by omega)), fun i hi => pS_k (h8 i hi) (by omega) (by omega) (fun j _ _ => if_neg (by omega))⟩, Fz_up (by omega) (by omega)⟩
theorem y_p {M : mm_M} {z : Nat} {k : Nat → Int32} (h : St M z k) {v g : Nat → Int32} (hg : ∀ j, j < 8 → g j = v (12 + j)) : St (mm_up M (z + 3) (.inr (0, 8, .inl g))) z (fun j => if 12 ≤ j ∧ j < 20 then v j else k j) ∧ Fz z M (mm_up M (z + 3) (.inr (0, 8, .inl g))) := by
  obtain ⟨h0, h1, h2, h3, h4, h5, h6, h7, h8⟩ := h
  exact ⟨⟨by rw [mm_up_n _ _ (by omega)]; exact h0, by rw [mm_up_n _ _ (by omega)]; exact h1, px_k h2 (by omega) (fun j _ _ => if_neg (by omega)), ⟨g, mm_up_s _ _ _, fun j hj => (hg j hj).trans (if_pos (by omega)).symm⟩, by rw [mm_up_n _ _ (by omega)]; exact h4, pR_n h5 (by omega), px_k h6 (by omega) (fun j _ _ => if_neg (by omega)), px_k h7 (by omega) (fun j _ _ => if_neg (by omega)), fun i hi => pS_k (h8 i hi) (by omega) (by omega) (fun j _ _ => if_neg (by omega))⟩, Fz_up (by omega) (by omega)⟩
theorem y_h {M : mm_M} {z : Nat} {k : Nat → Int32} (h : St M z k) {v g : Nat → Int32} (hg : ∀ j, j < 100 → g j = v (308 + j)) : St (mm_up M (z + 6) (.inr (0, 100, .inl g))) z (fun j => if 308 ≤ j ∧ j < 408 then v j else k j) ∧ Fz z M (mm_up M (z + 6) (.inr (0, 100, .inl g))) := by
  obtain ⟨h0, h1, h2, h3, h4, h5, h6, h7, h8⟩ := h
  exact ⟨⟨by rw [mm_up_n _ _ (by omega)]; exact h0, by rw [mm_up_n _ _ (by omega)]; exact h1, px_k h2 (by omega) (fun j _ _ => if_neg (by omega)), px_k h3 (by omega) (fun j _ _ => if_neg (by omega)), by rw [mm_up_n _ _ (by omega)]; exact h4, pR_n h5 (by omega), ⟨g, mm_up_s _ _ _, fun j hj => (hg j hj).trans (if_pos (by omega)).symm⟩, px_k h7 (by omega) (fun j _ _ => if_neg (by omega)), fun i hi => pS_k (h8 i hi) (by omega) (by omega) (fun j _ _ => if_neg (by omega))⟩, Fz_up (by omega) (by omega)⟩
theorem up_up (M : mm_M) (a : Nat) (o o' : mm_O) : mm_up (mm_up M a o) a o' = mm_up M a o' := by
  funext q
  by_cases hq : q = a
  · subst hq; rw [mm_up_s, mm_up_s]
  · rw [mm_up_n _ _ hq, mm_up_n _ _ hq, mm_up_n _ _ hq]
theorem fill_ok {M : mm_M} {a n : Nat} {f : Nat → Int32} (v : Int32) (ha : M a = some (.inr (0, n, .inl f))) (hn : n < 9000) : ∃ g, ff_J7_fill_53178 M a v = some (mm_up M a (.inr (0, n, .inl g))) ∧ ∀ j, j < n → g j = v := by
  have en := zz_nI n (by omega)
  obtain ⟨⟨x, M'⟩, h1, g, h2, h3⟩ := it_inv (body := mm_u2 (ff_J7_fill_53178_l5 a v (Int32.ofNat n))) (fun t (st : Int32 × mm_M) => st.1 = nI t ∧ ∃ g, (st.2 = mm_up M a (.inr (0, n, .inl g))) ∧ ∀ j, j < t → g j = v)
    (fun e => ∃ g, e.2 = mm_up M a (.inr (0, n, .inl g)) ∧ ∀ j, j < n → g j = v) n (by
      rintro t ⟨x, M'⟩ ht ⟨hx, g, hM, hg⟩
      dsimp only at hx hM
      subst hx; subst hM
      have et := zz_nI t (by omega)
      refine Or.inl ⟨(nI (t + 1), mm_up M a (.inr (0, n, .inl (upd g t v)))), ?_, rfl, upd g t v, rfl, fun j hj => ?_⟩
      · show ff_J7_fill_53178_l5 a v (Int32.ofNat n) (nI t) _ = _
        simp only [ff_J7_fill_53178_l5]
        rw [if_neg (by rw [zz_le]; show ¬ (nI n).toInt ≤ _; omega), wA (mm_up_s _ _ _) (by omega) (by omega), Option.bind_some, up_up, et, nI_1]
        simp only [Int.toNat_natCast]
      · by_cases hjt : j = t
        · subst hjt; rw [upd_s]
        · rw [upd_n hjt]; exact hg j (by omega)) (by
      rintro ⟨x, M'⟩ ⟨hx, g, hM, hg⟩
      dsimp only at hx hM
      subst hx
      refine ⟨(nI n, M'), ?_, g, hM, hg⟩
      show ff_J7_fill_53178_l5 a v (Int32.ofNat n) (nI n) _ = _
      simp only [ff_J7_fill_53178_l5]
      rw [if_pos (show Int32.ofNat n ≤ nI n from Int32.le_refl _)]) ((0 : Int32), M) mm_fu (mm_fu_gt (by omega)) ⟨rfl, f, by
        funext q
        by_cases hq : q = a
        · subst hq; rw [mm_up_s]; exact ha
        · rw [mm_up_n _ _ hq], fun j hj => absurd hj (by omega)⟩
  dsimp only at h2
  subst h2
  refine ⟨g, ?_, h3⟩
  simp only [ff_J7_fill_53178, rL ha (by decide), h1, Option.bind_some]
  rfl
section FB
variable {M : mm_M} {z : Nat} {k : Nat → Int32}
/-- the page when a floor begins -/
def pBe (k : Nat → Int32) (c r : Int32) : Nat → Int32 := fun j => if 20 ≤ j ∧ j < 164 then 50 else upd (upd k 0 c) 1 r j
theorem p_begin (h : St M z k) (c r : Int32) : ∃ M', ff_X1_begin M (z + 1) c r = some M' ∧ St M' z (pBe k c r) ∧ Fz z M M' := by
  obtain ⟨M1, e1, S1, F1⟩ := w_p4 h c
  obtain ⟨M2, e2, S2, F2⟩ := w_p5 S1 r
  obtain ⟨f, a1, a2⟩ := id S2.2.2.1
  obtain ⟨g, b1, b2⟩ := fill_ok 50 a1 (by omega)
  obtain ⟨S3, F3⟩ := y_w S2 (v := fun _ => 50) b2
  refine ⟨_, ?_, S3, Fz_tr F1 (Fz_tr F2 F3)⟩
  simp only [ff_X1_begin, e1, e2, g_p0 S2, b1, Option.bind_some]
/-- the page when the tesserae at hand are thrown away -/
def pTh (k : Nat → Int32) : Nat → Int32 := fun j => if 308 ≤ j ∧ j < 408 then 0 else upd k 11 (k 11 + su (fun s => k (308 + s)) 100 * k 2) j
theorem t_throw (h : St M z k) : ∃ M', ff_X3_throwAway M (z + 4) = some M' ∧ St M' z (pTh k) ∧ Fz z M M' := by
  obtain ⟨M1, e1, S1, F1⟩ := w_t8 h (k 11 + su (fun s => k (308 + s)) 100 * k 2)
  obtain ⟨f, a1, a2⟩ := id S1.2.2.2.2.2.2.1
  obtain ⟨g, b1, b2⟩ := fill_ok 0 a1 (by omega)
  obtain ⟨S3, F3⟩ := y_h S1 (v := fun _ => 0) b2
  refine ⟨_, ?_, S3, Fz_tr F1 F3⟩
  simp only [ff_X3_throwAway, g_t8 h, c_t h, t_sumH h, g_t3 h, e1, g_t1 S1, b1, Option.bind_some]
/-- a strip comes -/
def pAs (k : Nat → Int32) (i : Nat) (L s : Int32) : Nat → Int32 := upd (upd (upd (upd (upd (upd k (408 + 11 * i) L) (409 + 11 * i) s) (410 + 11 * i) 0) (411 + 11 * i) 0) (412 + 11 * i) 0) 6 (k 6 + 1)
theorem t_addStrip (h : St M z k) {i : Nat} (hi : i < 10) (ei : k 6 = nI i) (L s : Int32) : ∃ M', ff_X3_addStrip M (z + 4) L s = some (nI i, M') ∧ St M' z (pAs k i L s) ∧ Fz z M M' := by
  have e := zz_nI i (by omega)
  obtain ⟨M1, e1, S1, F1⟩ := w_r2 h hi L
  obtain ⟨M2, e2, S2, F2⟩ := w_r3 S1 hi s
  obtain ⟨M3, e3, S3, F3⟩ := w_r4 S2 hi 0
  obtain ⟨M4, e4, S4, F4⟩ := w_r1 S3 hi 0
  obtain ⟨M5, e5, S5, F5⟩ := w_r5 S4 hi 0
  have r1 : mm_gI 3 M5 (z + 4) 2 = some (k 6) := by rw [g_t2 S5, upd_n (by omega), upd_n (by omega), upd_n (by omega), upd_n (by omega), upd_n (by omega)]
  obtain ⟨M6, e6, S6, F6⟩ := w_t2 S5 (k 6 + 1)
  refine ⟨M6, ?_, S6, Fz_tr F1 (Fz_tr F2 (Fz_tr F3 (Fz_tr F4 (Fz_tr F5 F6))))⟩
  have ra := a_r h (i := nI i) (by omega) (by omega)
  rw [e] at ra
  simp only [Int.toNat_natCast] at ra
  rw [ei] at r1 e6
  simp only [ff_X3_addStrip, ff_X4_begin, g_t2 h, ei, g_t0 h, l_r h, ra, c_r h hi, e1, e2, e3, e4, e5, r1, e6, Option.bind_some]
  rw [if_neg (by rw [zz_le, z10]; omega)]
theorem t_strip (h : St M z k) (hr : Rs k) (a : Int32) : ff_X3_stripOrNull M (z + 4) a = some (if 0 ≤ a.toInt ∧ a.toInt < (k 6).toInt then some (z + 7 + 2 * a.toInt.toNat) else none) := by
  have h6 := hr.2.2.1
  simp only [ff_X3_stripOrNull, g_t2 h, g_t0 h, l_r h, Option.bind_some]
  by_cases c1 : a < 0
  · rw [if_pos c1, if_neg (by rw [zz_lt, z0] at c1; omega)]
  · rw [if_neg c1]
    rw [zz_lt, z0] at c1
    by_cases c2 : k 6 ≤ a
    · rw [if_pos c2, if_neg (by rw [zz_le] at c2; omega)]
    · rw [if_neg c2]
      rw [zz_le] at c2
      rw [if_neg (by rw [zz_le, z10]; omega), if_pos (by omega), a_r h (by omega) (by omega), Option.bind_some]
/-- a flaw is marked -/
def pFl (k : Nat → Int32) (i : Nat) (v : Int32) : Nat → Int32 := upd (upd k (413 + 11 * i + (k (411 + 11 * i)).toInt.toNat) v) (411 + 11 * i) (k (411 + 11 * i) + 1)
theorem t_flaw (h : St M z k) {i : Nat} (hi : i < 10) (h0 : 0 ≤ (k (411 + 11 * i)).toInt) (h1 : (k (411 + 11 * i)).toInt < 6) (v : Int32) : ∃ M', ff_X4_addFlaw M (z + 7 + 2 * i) v = some M' ∧ St M' z (pFl k i v) ∧ Fz z M M' := by
  obtain ⟨M1, e1, S1, F1⟩ := w_f h hi h0 h1 v
  have r1 : mm_gI 4 M1 (z + 7 + 2 * i) 1 = some (k (411 + 11 * i)) := by rw [g_r1 S1 hi, upd_n (by omega)]
  obtain ⟨M2, e2, S2, F2⟩ := w_r1 S1 hi (k (411 + 11 * i) + 1)
  refine ⟨M2, ?_, S2, Fz_tr F1 F2⟩
  simp only [ff_X4_addFlaw, g_r1 h hi, g_r0 h hi, l_f h hi, e1, r1, e2, Option.bind_some]
  rw [if_neg (by rw [zz_le, show (6 : Int32).toInt = 6 from rfl]; omega)]
end FB
