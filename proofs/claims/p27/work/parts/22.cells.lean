-- readings of a State's cells
theorem g_s0 {M : mm_M} {z : Nat} {k : Nat → Int32} (h : St M z k) : mm_gR 2 M z 0 = some (z + 1) := rR h.1 rfl
theorem g_s1 {M : mm_M} {z : Nat} {k : Nat → Int32} (h : St M z k) : mm_gR 2 M z 1 = some (z + 4) := rR h.1 rfl
theorem g_s2 {M : mm_M} {z : Nat} {k : Nat → Int32} (h : St M z k) : mm_gR 2 M z 2 = some (z + 27) := rR h.1 rfl
theorem g_s3 {M : mm_M} {z : Nat} {k : Nat → Int32} (h : St M z k) : mm_gI 2 M z 3 = some (k 7) := rI h.1 rfl
theorem c_s {M : mm_M} {z : Nat} {k : Nat → Int32} (h : St M z k) : mm_ck 2 M z = some () := rC h.1
theorem g_p0 {M : mm_M} {z : Nat} {k : Nat → Int32} (h : St M z k) : mm_gR 1 M (z + 1) 0 = some (z + 2) := rR h.2.1 rfl
theorem g_p1 {M : mm_M} {z : Nat} {k : Nat → Int32} (h : St M z k) : mm_gR 1 M (z + 1) 1 = some (z + 3) := rR h.2.1 rfl
theorem g_p2 {M : mm_M} {z : Nat} {k : Nat → Int32} (h : St M z k) : mm_gI 1 M (z + 1) 2 = some (k 4) := rI h.2.1 rfl
theorem g_p3 {M : mm_M} {z : Nat} {k : Nat → Int32} (h : St M z k) : mm_gI 1 M (z + 1) 3 = some (k 5) := rI h.2.1 rfl
theorem g_p4 {M : mm_M} {z : Nat} {k : Nat → Int32} (h : St M z k) : mm_gI 1 M (z + 1) 4 = some (k 0) := rI h.2.1 rfl
theorem g_p5 {M : mm_M} {z : Nat} {k : Nat → Int32} (h : St M z k) : mm_gI 1 M (z + 1) 5 = some (k 1) := rI h.2.1 rfl
theorem c_p {M : mm_M} {z : Nat} {k : Nat → Int32} (h : St M z k) : mm_ck 1 M (z + 1) = some () := rC h.2.1
theorem g_t0 {M : mm_M} {z : Nat} {k : Nat → Int32} (h : St M z k) : mm_gR 3 M (z + 4) 0 = some (z + 5) := rR h.2.2.2.2.1 rfl
theorem g_t1 {M : mm_M} {z : Nat} {k : Nat → Int32} (h : St M z k) : mm_gR 3 M (z + 4) 1 = some (z + 6) := rR h.2.2.2.2.1 rfl
theorem g_t2 {M : mm_M} {z : Nat} {k : Nat → Int32} (h : St M z k) : mm_gI 3 M (z + 4) 2 = some (k 6) := rI h.2.2.2.2.1 rfl
theorem g_t3 {M : mm_M} {z : Nat} {k : Nat → Int32} (h : St M z k) : mm_gI 3 M (z + 4) 3 = some (k 2) := rI h.2.2.2.2.1 rfl
theorem g_t4 {M : mm_M} {z : Nat} {k : Nat → Int32} (h : St M z k) : mm_gI 3 M (z + 4) 4 = some (k 3) := rI h.2.2.2.2.1 rfl
theorem g_t5 {M : mm_M} {z : Nat} {k : Nat → Int32} (h : St M z k) : mm_gI 3 M (z + 4) 5 = some (k 8) := rI h.2.2.2.2.1 rfl
theorem g_t6 {M : mm_M} {z : Nat} {k : Nat → Int32} (h : St M z k) : mm_gI 3 M (z + 4) 6 = some (k 9) := rI h.2.2.2.2.1 rfl
theorem g_t7 {M : mm_M} {z : Nat} {k : Nat → Int32} (h : St M z k) : mm_gI 3 M (z + 4) 7 = some (k 10) := rI h.2.2.2.2.1 rfl
theorem g_t8 {M : mm_M} {z : Nat} {k : Nat → Int32} (h : St M z k) : mm_gI 3 M (z + 4) 8 = some (k 11) := rI h.2.2.2.2.1 rfl
theorem c_t {M : mm_M} {z : Nat} {k : Nat → Int32} (h : St M z k) : mm_ck 3 M (z + 4) = some () := rC h.2.2.2.2.1
theorem g_r0 {M : mm_M} {z : Nat} {k : Nat → Int32} (h : St M z k) {i : Nat} (hi : i < 10) : mm_gR 4 M (z + 7 + 2 * i) 0 = some (z + 8 + 2 * i) := rR (h.2.2.2.2.2.2.2.2 i hi).1 rfl
theorem g_r1 {M : mm_M} {z : Nat} {k : Nat → Int32} (h : St M z k) {i : Nat} (hi : i < 10) : mm_gI 4 M (z + 7 + 2 * i) 1 = some (k (411 + 11 * i)) := rI (h.2.2.2.2.2.2.2.2 i hi).1 rfl
theorem g_r2 {M : mm_M} {z : Nat} {k : Nat → Int32} (h : St M z k) {i : Nat} (hi : i < 10) : mm_gI 4 M (z + 7 + 2 * i) 2 = some (k (408 + 11 * i)) := rI (h.2.2.2.2.2.2.2.2 i hi).1 rfl
theorem g_r3 {M : mm_M} {z : Nat} {k : Nat → Int32} (h : St M z k) {i : Nat} (hi : i < 10) : mm_gI 4 M (z + 7 + 2 * i) 3 = some (k (409 + 11 * i)) := rI (h.2.2.2.2.2.2.2.2 i hi).1 rfl
theorem g_r4 {M : mm_M} {z : Nat} {k : Nat → Int32} (h : St M z k) {i : Nat} (hi : i < 10) : mm_gI 4 M (z + 7 + 2 * i) 4 = some (k (410 + 11 * i)) := rI (h.2.2.2.2.2.2.2.2 i hi).1 rfl
theorem g_r5 {M : mm_M} {z : Nat} {k : Nat → Int32} (h : St M z k) {i : Nat} (hi : i < 10) : mm_gI 4 M (z + 7 + 2 * i) 5 = some (k (412 + 11 * i)) := rI (h.2.2.2.2.2.2.2.2 i hi).1 rfl
theorem c_r {M : mm_M} {z : Nat} {k : Nat → Int32} (h : St M z k) {i : Nat} (hi : i < 10) : mm_ck 4 M (z + 7 + 2 * i) = some () := rC (h.2.2.2.2.2.2.2.2 i hi).1
theorem a_w {M : mm_M} {z : Nat} {k : Nat → Int32} (h : St M z k) {i : Int32} (h0 : 0 ≤ i.toInt) (h1 : i.toInt < 144) : mm_aI 0 M (z + 2) i = some (k (20 + i.toInt.toNat)) := rX h.2.2.1 h0 h1
theorem a_p {M : mm_M} {z : Nat} {k : Nat → Int32} (h : St M z k) {i : Int32} (h0 : 0 ≤ i.toInt) (h1 : i.toInt < 8) : mm_aI 0 M (z + 3) i = some (k (12 + i.toInt.toNat)) := rX h.2.2.2.1 h0 h1
theorem a_h {M : mm_M} {z : Nat} {k : Nat → Int32} (h : St M z k) {i : Int32} (h0 : 0 ≤ i.toInt) (h1 : i.toInt < 100) : mm_aI 0 M (z + 6) i = some (k (308 + i.toInt.toNat)) := rX h.2.2.2.2.2.2.1 h0 h1
theorem a_l {M : mm_M} {z : Nat} {k : Nat → Int32} (h : St M z k) {i : Int32} (h0 : 0 ≤ i.toInt) (h1 : i.toInt < 144) : mm_aI 0 M (z + 27) i = some (k (164 + i.toInt.toNat)) := rX h.2.2.2.2.2.2.2.1 h0 h1
theorem a_f {M : mm_M} {z : Nat} {k : Nat → Int32} (h : St M z k) {j : Nat} (hj : j < 10) {i : Int32} (h0 : 0 ≤ i.toInt) (h1 : i.toInt < 6) : mm_aI 0 M (z + 8 + 2 * j) i = some (k (413 + 11 * j + i.toInt.toNat)) := rX (h.2.2.2.2.2.2.2.2 j hj).2 h0 h1
theorem l_w {M : mm_M} {z : Nat} {k : Nat → Int32} (h : St M z k) : mm_ln M (z + 2) = some 144 := rXl h.2.2.1
theorem l_p {M : mm_M} {z : Nat} {k : Nat → Int32} (h : St M z k) : mm_ln M (z + 3) = some 8 := rXl h.2.2.2.1
theorem l_h {M : mm_M} {z : Nat} {k : Nat → Int32} (h : St M z k) : mm_ln M (z + 6) = some 100 := rXl h.2.2.2.2.2.2.1
theorem l_l {M : mm_M} {z : Nat} {k : Nat → Int32} (h : St M z k) : mm_ln M (z + 27) = some 144 := rXl h.2.2.2.2.2.2.2.1
theorem l_f {M : mm_M} {z : Nat} {k : Nat → Int32} (h : St M z k) {j : Nat} (hj : j < 10) : mm_ln M (z + 8 + 2 * j) = some 6 := rXl (h.2.2.2.2.2.2.2.2 j hj).2
theorem l_r {M : mm_M} {z : Nat} {k : Nat → Int32} (h : St M z k) : mm_ln M (z + 5) = some 10 := by
  obtain ⟨f, h1, h2⟩ := h.2.2.2.2.2.1
  exact rL h1 (by decide)
theorem a_r {M : mm_M} {z : Nat} {k : Nat → Int32} (h : St M z k) {i : Int32} (h0 : 0 ≤ i.toInt) (h1 : i.toInt < 10) : mm_aR 2 M (z + 5) i = some (z + 7 + 2 * i.toInt.toNat) := by
  obtain ⟨f, h2, h3⟩ := h.2.2.2.2.2.1
  exact rQ h2 h0 h1 (h3 _ (by omega))
-- writings
theorem w_s3 {M : mm_M} {z : Nat} {k : Nat → Int32} (h : St M z k) (v : Int32) : ∃ M', mm_pI 2 M z 3 v = some M' ∧ St M' z (upd k 7 v) ∧ Fz z M M' := by
  obtain ⟨h0, h1, h2, h3, h4, h5, h6, h7, h8⟩ := h
  refine ⟨_, wI h0 (by simp), ⟨by rw [mm_up_s]; simp [upd], by rw [mm_up_n _ _ (by omega), h1, upd_n (by omega), upd_n (by omega), upd_n (by omega), upd_n (by omega)], px_n h2 (by omega) (by omega), px_n h3 (by omega) (by omega), by rw [mm_up_n _ _ (by omega), h4, upd_n (by omega), upd_n (by omega), upd_n (by omega), upd_n (by omega), upd_n (by omega), upd_n (by omega), upd_n (by omega)], pR_n h5 (by omega), px_n h6 (by omega) (by omega), px_n h7 (by omega) (by omega), fun i hi => pS_n (h8 i hi) (by omega) (by omega) (by omega)⟩, Fz_up (by omega) (by omega)⟩
theorem w_p2 {M : mm_M} {z : Nat} {k : Nat → Int32} (h : St M z k) (v : Int32) : ∃ M', mm_pI 1 M (z + 1) 2 v = some M' ∧ St M' z (upd k 4 v) ∧ Fz z M M' := by
  obtain ⟨h0, h1, h2, h3, h4, h5, h6, h7, h8⟩ := h
  refine ⟨_, wI h1 (by simp), ⟨by rw [mm_up_n _ _ (by omega), h0, upd_n (by omega)], by rw [mm_up_s]; simp [upd], px_n h2 (by omega) (by omega), px_n h3 (by omega) (by omega), by rw [mm_up_n _ _ (by omega), h4, upd_n (by omega), upd_n (by omega), upd_n (by omega), upd_n (by omega), upd_n (by omega), upd_n (by omega), upd_n (by omega)], pR_n h5 (by omega), px_n h6 (by omega) (by omega), px_n h7 (by omega) (by omega), fun i hi => pS_n (h8 i hi) (by omega) (by omega) (by omega)⟩, Fz_up (by omega) (by omega)⟩
theorem w_p3 {M : mm_M} {z : Nat} {k : Nat → Int32} (h : St M z k) (v : Int32) : ∃ M', mm_pI 1 M (z + 1) 3 v = some M' ∧ St M' z (upd k 5 v) ∧ Fz z M M' := by
  obtain ⟨h0, h1, h2, h3, h4, h5, h6, h7, h8⟩ := h
  refine ⟨_, wI h1 (by simp), ⟨by rw [mm_up_n _ _ (by omega), h0, upd_n (by omega)], by rw [mm_up_s]; simp [upd], px_n h2 (by omega) (by omega), px_n h3 (by omega) (by omega), by rw [mm_up_n _ _ (by omega), h4, upd_n (by omega), upd_n (by omega), upd_n (by omega), upd_n (by omega), upd_n (by omega), upd_n (by omega), upd_n (by omega)], pR_n h5 (by omega), px_n h6 (by omega) (by omega), px_n h7 (by omega) (by omega), fun i hi => pS_n (h8 i hi) (by omega) (by omega) (by omega)⟩, Fz_up (by omega) (by omega)⟩
theorem w_p4 {M : mm_M} {z : Nat} {k : Nat → Int32} (h : St M z k) (v : Int32) : ∃ M', mm_pI 1 M (z + 1) 4 v = some M' ∧ St M' z (upd k 0 v) ∧ Fz z M M' := by
  obtain ⟨h0, h1, h2, h3, h4, h5, h6, h7, h8⟩ := h
  refine ⟨_, wI h1 (by simp), ⟨by rw [mm_up_n _ _ (by omega), h0, upd_n (by omega)], by rw [mm_up_s]; simp [upd], px_n h2 (by omega) (by omega), px_n h3 (by omega) (by omega), by rw [mm_up_n _ _ (by omega), h4, upd_n (by omega), upd_n (by omega), upd_n (by omega), upd_n (by omega), upd_n (by omega), upd_n (by omega), upd_n (by omega)], pR_n h5 (by omega), px_n h6 (by omega) (by omega), px_n h7 (by omega) (by omega), fun i hi => pS_n (h8 i hi) (by omega) (by omega) (by omega)⟩, Fz_up (by omega) (by omega)⟩
theorem w_p5 {M : mm_M} {z : Nat} {k : Nat → Int32} (h : St M z k) (v : Int32) : ∃ M', mm_pI 1 M (z + 1) 5 v = some M' ∧ St M' z (upd k 1 v) ∧ Fz z M M' := by
  obtain ⟨h0, h1, h2, h3, h4, h5, h6, h7, h8⟩ := h
  refine ⟨_, wI h1 (by simp), ⟨by rw [mm_up_n _ _ (by omega), h0, upd_n (by omega)], by rw [mm_up_s]; simp [upd], px_n h2 (by omega) (by omega), px_n h3 (by omega) (by omega), by rw [mm_up_n _ _ (by omega), h4, upd_n (by omega), upd_n (by omega), upd_n (by omega), upd_n (by omega), upd_n (by omega), upd_n (by omega), upd_n (by omega)], pR_n h5 (by omega), px_n h6 (by omega) (by omega), px_n h7 (by omega) (by omega), fun i hi => pS_n (h8 i hi) (by omega) (by omega) (by omega)⟩, Fz_up (by omega) (by omega)⟩
theorem w_t2 {M : mm_M} {z : Nat} {k : Nat → Int32} (h : St M z k) (v : Int32) : ∃ M', mm_pI 3 M (z + 4) 2 v = some M' ∧ St M' z (upd k 6 v) ∧ Fz z M M' := by
  obtain ⟨h0, h1, h2, h3, h4, h5, h6, h7, h8⟩ := h
  refine ⟨_, wI h4 (by simp), ⟨by rw [mm_up_n _ _ (by omega), h0, upd_n (by omega)], by rw [mm_up_n _ _ (by omega), h1, upd_n (by omega), upd_n (by omega), upd_n (by omega), upd_n (by omega)], px_n h2 (by omega) (by omega), px_n h3 (by omega) (by omega), by rw [mm_up_s]; simp [upd], pR_n h5 (by omega), px_n h6 (by omega) (by omega), px_n h7 (by omega) (by omega), fun i hi => pS_n (h8 i hi) (by omega) (by omega) (by omega)⟩, Fz_up (by omega) (by omega)⟩
theorem w_t3 {M : mm_M} {z : Nat} {k : Nat → Int32} (h : St M z k) (v : Int32) : ∃ M', mm_pI 3 M (z + 4) 3 v = some M' ∧ St M' z (upd k 2 v) ∧ Fz z M M' := by
  obtain ⟨h0, h1, h2, h3, h4, h5, h6, h7, h8⟩ := h
  refine ⟨_, wI h4 (by simp), ⟨by rw [mm_up_n _ _ (by omega), h0, upd_n (by omega)], by rw [mm_up_n _ _ (by omega), h1, upd_n (by omega), upd_n (by omega), upd_n (by omega), upd_n (by omega)], px_n h2 (by omega) (by omega), px_n h3 (by omega) (by omega), by rw [mm_up_s]; simp [upd], pR_n h5 (by omega), px_n h6 (by omega) (by omega), px_n h7 (by omega) (by omega), fun i hi => pS_n (h8 i hi) (by omega) (by omega) (by omega)⟩, Fz_up (by omega) (by omega)⟩
theorem w_t4 {M : mm_M} {z : Nat} {k : Nat → Int32} (h : St M z k) (v : Int32) : ∃ M', mm_pI 3 M (z + 4) 4 v = some M' ∧ St M' z (upd k 3 v) ∧ Fz z M M' := by
  obtain ⟨h0, h1, h2, h3, h4, h5, h6, h7, h8⟩ := h
  refine ⟨_, wI h4 (by simp), ⟨by rw [mm_up_n _ _ (by omega), h0, upd_n (by omega)], by rw [mm_up_n _ _ (by omega), h1, upd_n (by omega), upd_n (by omega), upd_n (by omega), upd_n (by omega)], px_n h2 (by omega) (by omega), px_n h3 (by omega) (by omega), by rw [mm_up_s]; simp [upd], pR_n h5 (by omega), px_n h6 (by omega) (by omega), px_n h7 (by omega) (by omega), fun i hi => pS_n (h8 i hi) (by omega) (by omega) (by omega)⟩, Fz_up (by omega) (by omega)⟩
theorem w_t5 {M : mm_M} {z : Nat} {k : Nat → Int32} (h : St M z k) (v : Int32) : ∃ M', mm_pI 3 M (z + 4) 5 v = some M' ∧ St M' z (upd k 8 v) ∧ Fz z M M' := by
  obtain ⟨h0, h1, h2, h3, h4, h5, h6, h7, h8⟩ := h
  refine ⟨_, wI h4 (by simp), ⟨by rw [mm_up_n _ _ (by omega), h0, upd_n (by omega)], by rw [mm_up_n _ _ (by omega), h1, upd_n (by omega), upd_n (by omega), upd_n (by omega), upd_n (by omega)], px_n h2 (by omega) (by omega), px_n h3 (by omega) (by omega), by rw [mm_up_s]; simp [upd], pR_n h5 (by omega), px_n h6 (by omega) (by omega), px_n h7 (by omega) (by omega), fun i hi => pS_n (h8 i hi) (by omega) (by omega) (by omega)⟩, Fz_up (by omega) (by omega)⟩
theorem w_t6 {M : mm_M} {z : Nat} {k : Nat → Int32} (h : St M z k) (v : Int32) : ∃ M', mm_pI 3 M (z + 4) 6 v = some M' ∧ St M' z (upd k 9 v) ∧ Fz z M M' := by
  obtain ⟨h0, h1, h2, h3, h4, h5, h6, h7, h8⟩ := h
  refine ⟨_, wI h4 (by simp), ⟨by rw [mm_up_n _ _ (by omega), h0, upd_n (by omega)], by rw [mm_up_n _ _ (by omega), h1, upd_n (by omega), upd_n (by omega), upd_n (by omega), upd_n (by omega)], px_n h2 (by omega) (by omega), px_n h3 (by omega) (by omega), by rw [mm_up_s]; simp [upd], pR_n h5 (by omega), px_n h6 (by omega) (by omega), px_n h7 (by omega) (by omega), fun i hi => pS_n (h8 i hi) (by omega) (by omega) (by omega)⟩, Fz_up (by omega) (by omega)⟩
theorem w_t7 {M : mm_M} {z : Nat} {k : Nat → Int32} (h : St M z k) (v : Int32) : ∃ M', mm_pI 3 M (z + 4) 7 v = some M' ∧ St M' z (upd k 10 v) ∧ Fz z M M' := by
  obtain ⟨h0, h1, h2, h3, h4, h5, h6, h7, h8⟩ := h
  refine ⟨_, wI h4 (by simp), ⟨by rw [mm_up_n _ _ (by omega), h0, upd_n (by omega)], by rw [mm_up_n _ _ (by omega), h1, upd_n (by omega), upd_n (by omega), upd_n (by omega), upd_n (by omega)], px_n h2 (by omega) (by omega), px_n h3 (by omega) (by omega), by rw [mm_up_s]; simp [upd], pR_n h5 (by omega), px_n h6 (by omega) (by omega), px_n h7 (by omega) (by omega), fun i hi => pS_n (h8 i hi) (by omega) (by omega) (by omega)⟩, Fz_up (by omega) (by omega)⟩
theorem w_t8 {M : mm_M} {z : Nat} {k : Nat → Int32} (h : St M z k) (v : Int32) : ∃ M', mm_pI 3 M (z + 4) 8 v = some M' ∧ St M' z (upd k 11 v) ∧ Fz z M M' := by
  obtain ⟨h0, h1, h2, h3, h4, h5, h6, h7, h8⟩ := h
  refine ⟨_, wI h4 (by simp), ⟨by rw [mm_up_n _ _ (by omega), h0, upd_n (by omega)], by rw [mm_up_n _ _ (by omega), h1, upd_n (by omega), upd_n (by omega), upd_n (by omega), upd_n (by omega)], px_n h2 (by omega) (by omega), px_n h3 (by omega) (by omega), by rw [mm_up_s]; simp [upd], pR_n h5 (by omega), px_n h6 (by omega) (by omega), px_n h7 (by omega) (by omega), fun i hi => pS_n (h8 i hi) (by omega) (by omega) (by omega)⟩, Fz_up (by omega) (by omega)⟩
theorem w_w {M : mm_M} {z : Nat} {k : Nat → Int32} (h : St M z k) {i : Int32} (i0 : 0 ≤ i.toInt) (i1 : i.toInt < 144) (v : Int32) : ∃ M', mm_sI 0 M (z + 2) i v = some M' ∧ St M' z (upd k (20 + i.toInt.toNat) v) ∧ Fz z M M' := by
  obtain ⟨h0, h1, h2, h3, h4, h5, h6, h7, h8⟩ := h
  obtain ⟨f, g1, g2⟩ := id h2
  refine ⟨_, wA g1 i0 i1, ⟨by rw [mm_up_n _ _ (by omega), h0, upd_n (by omega)], by rw [mm_up_n _ _ (by omega), h1, upd_n (by omega), upd_n (by omega), upd_n (by omega), upd_n (by omega)], px_s g2 (by omega), px_n h3 (by omega) (by omega), by rw [mm_up_n _ _ (by omega), h4, upd_n (by omega), upd_n (by omega), upd_n (by omega), upd_n (by omega), upd_n (by omega), upd_n (by omega), upd_n (by omega)], pR_n h5 (by omega), px_n h6 (by omega) (by omega), px_n h7 (by omega) (by omega), fun i hi => pS_n (h8 i hi) (by omega) (by omega) (by omega)⟩, Fz_up (by omega) (by omega)⟩
theorem w_p {M : mm_M} {z : Nat} {k : Nat → Int32} (h : St M z k) {i : Int32} (i0 : 0 ≤ i.toInt) (i1 : i.toInt < 8) (v : Int32) : ∃ M', mm_sI 0 M (z + 3) i v = some M' ∧ St M' z (upd k (12 + i.toInt.toNat) v) ∧ Fz z M M' := by
  obtain ⟨h0, h1, h2, h3, h4, h5, h6, h7, h8⟩ := h
  obtain ⟨f, g1, g2⟩ := id h3
  refine ⟨_, wA g1 i0 i1, ⟨by rw [mm_up_n _ _ (by omega), h0, upd_n (by omega)], by rw [mm_up_n _ _ (by omega), h1, upd_n (by omega), upd_n (by omega), upd_n (by omega), upd_n (by omega)], px_n h2 (by omega) (by omega), px_s g2 (by omega), by rw [mm_up_n _ _ (by omega), h4, upd_n (by omega), upd_n (by omega), upd_n (by omega), upd_n (by omega), upd_n (by omega), upd_n (by omega), upd_n (by omega)], pR_n h5 (by omega), px_n h6 (by omega) (by omega), px_n h7 (by omega) (by omega), fun i hi => pS_n (h8 i hi) (by omega) (by omega) (by omega)⟩, Fz_up (by omega) (by omega)⟩
theorem w_h {M : mm_M} {z : Nat} {k : Nat → Int32} (h : St M z k) {i : Int32} (i0 : 0 ≤ i.toInt) (i1 : i.toInt < 100) (v : Int32) : ∃ M', mm_sI 0 M (z + 6) i v = some M' ∧ St M' z (upd k (308 + i.toInt.toNat) v) ∧ Fz z M M' := by
  obtain ⟨h0, h1, h2, h3, h4, h5, h6, h7, h8⟩ := h
  obtain ⟨f, g1, g2⟩ := id h6
  refine ⟨_, wA g1 i0 i1, ⟨by rw [mm_up_n _ _ (by omega), h0, upd_n (by omega)], by rw [mm_up_n _ _ (by omega), h1, upd_n (by omega), upd_n (by omega), upd_n (by omega), upd_n (by omega)], px_n h2 (by omega) (by omega), px_n h3 (by omega) (by omega), by rw [mm_up_n _ _ (by omega), h4, upd_n (by omega), upd_n (by omega), upd_n (by omega), upd_n (by omega), upd_n (by omega), upd_n (by omega), upd_n (by omega)], pR_n h5 (by omega), px_s g2 (by omega), px_n h7 (by omega) (by omega), fun i hi => pS_n (h8 i hi) (by omega) (by omega) (by omega)⟩, Fz_up (by omega) (by omega)⟩
theorem w_l {M : mm_M} {z : Nat} {k : Nat → Int32} (h : St M z k) {i : Int32} (i0 : 0 ≤ i.toInt) (i1 : i.toInt < 144) (v : Int32) : ∃ M', mm_sI 0 M (z + 27) i v = some M' ∧ St M' z (upd k (164 + i.toInt.toNat) v) ∧ Fz z M M' := by
  obtain ⟨h0, h1, h2, h3, h4, h5, h6, h7, h8⟩ := h
  obtain ⟨f, g1, g2⟩ := id h7
  refine ⟨_, wA g1 i0 i1, ⟨by rw [mm_up_n _ _ (by omega), h0, upd_n (by omega)], by rw [mm_up_n _ _ (by omega), h1, upd_n (by omega), upd_n (by omega), upd_n (by omega), upd_n (by omega)], px_n h2 (by omega) (by omega), px_n h3 (by omega) (by omega), by rw [mm_up_n _ _ (by omega), h4, upd_n (by omega), upd_n (by omega), upd_n (by omega), upd_n (by omega), upd_n (by omega), upd_n (by omega), upd_n (by omega)], pR_n h5 (by omega), px_n h6 (by omega) (by omega), px_s g2 (by omega), fun i hi => pS_n (h8 i hi) (by omega) (by omega) (by omega)⟩, Fz_up (by omega) (by omega)⟩
theorem w_r1 {M : mm_M} {z : Nat} {k : Nat → Int32} (h : St M z k) {j : Nat} (hj : j < 10) (v : Int32) : ∃ M', mm_pI 4 M (z + 7 + 2 * j) 1 v = some M' ∧ St M' z (upd k (411 + 11 * j) v) ∧ Fz z M M' := by
  obtain ⟨h0, h1, h2, h3, h4, h5, h6, h7, h8⟩ := h
  refine ⟨_, wI (h8 j hj).1 (by simp), ⟨by rw [mm_up_n _ _ (by omega), h0, upd_n (by omega)], by rw [mm_up_n _ _ (by omega), h1, upd_n (by omega), upd_n (by omega), upd_n (by omega), upd_n (by omega)], px_n h2 (by omega) (by omega), px_n h3 (by omega) (by omega), by rw [mm_up_n _ _ (by omega), h4, upd_n (by omega), upd_n (by omega), upd_n (by omega), upd_n (by omega), upd_n (by omega), upd_n (by omega), upd_n (by omega)], pR_n h5 (by omega), px_n h6 (by omega) (by omega), px_n h7 (by omega) (by omega), fun i hi => ?_⟩, Fz_up (by omega) (by omega)⟩
  by_cases hij : i = j
  · subst hij
    refine ⟨?_, px_n (h8 i hi).2 (by omega) (by omega)⟩
    rw [mm_up_s]
    simp [upd]
  · exact pS_n (h8 i hi) (by omega) (by omega) (by omega)
theorem w_r2 {M : mm_M} {z : Nat} {k : Nat → Int32} (h : St M z k) {j : Nat} (hj : j < 10) (v : Int32) : ∃ M', mm_pI 4 M (z + 7 + 2 * j) 2 v = some M' ∧ St M' z (upd k (408 + 11 * j) v) ∧ Fz z M M' := by
  obtain ⟨h0, h1, h2, h3, h4, h5, h6, h7, h8⟩ := h
  refine ⟨_, wI (h8 j hj).1 (by simp), ⟨by rw [mm_up_n _ _ (by omega), h0, upd_n (by omega)], by rw [mm_up_n _ _ (by omega), h1, upd_n (by omega), upd_n (by omega), upd_n (by omega), upd_n (by omega)], px_n h2 (by omega) (by omega), px_n h3 (by omega) (by omega), by rw [mm_up_n _ _ (by omega), h4, upd_n (by omega), upd_n (by omega), upd_n (by omega), upd_n (by omega), upd_n (by omega), upd_n (by omega), upd_n (by omega)], pR_n h5 (by omega), px_n h6 (by omega) (by omega), px_n h7 (by omega) (by omega), fun i hi => ?_⟩, Fz_up (by omega) (by omega)⟩
  by_cases hij : i = j
  · subst hij
    refine ⟨?_, px_n (h8 i hi).2 (by omega) (by omega)⟩
    rw [mm_up_s]
    simp [upd]
  · exact pS_n (h8 i hi) (by omega) (by omega) (by omega)
theorem w_r3 {M : mm_M} {z : Nat} {k : Nat → Int32} (h : St M z k) {j : Nat} (hj : j < 10) (v : Int32) : ∃ M', mm_pI 4 M (z + 7 + 2 * j) 3 v = some M' ∧ St M' z (upd k (409 + 11 * j) v) ∧ Fz z M M' := by
  obtain ⟨h0, h1, h2, h3, h4, h5, h6, h7, h8⟩ := h
  refine ⟨_, wI (h8 j hj).1 (by simp), ⟨by rw [mm_up_n _ _ (by omega), h0, upd_n (by omega)], by rw [mm_up_n _ _ (by omega), h1, upd_n (by omega), upd_n (by omega), upd_n (by omega), upd_n (by omega)], px_n h2 (by omega) (by omega), px_n h3 (by omega) (by omega), by rw [mm_up_n _ _ (by omega), h4, upd_n (by omega), upd_n (by omega), upd_n (by omega), upd_n (by omega), upd_n (by omega), upd_n (by omega), upd_n (by omega)], pR_n h5 (by omega), px_n h6 (by omega) (by omega), px_n h7 (by omega) (by omega), fun i hi => ?_⟩, Fz_up (by omega) (by omega)⟩
  by_cases hij : i = j
  · subst hij
    refine ⟨?_, px_n (h8 i hi).2 (by omega) (by omega)⟩
    rw [mm_up_s]
    simp [upd]
  · exact pS_n (h8 i hi) (by omega) (by omega) (by omega)
theorem w_r4 {M : mm_M} {z : Nat} {k : Nat → Int32} (h : St M z k) {j : Nat} (hj : j < 10) (v : Int32) : ∃ M', mm_pI 4 M (z + 7 + 2 * j) 4 v = some M' ∧ St M' z (upd k (410 + 11 * j) v) ∧ Fz z M M' := by
  obtain ⟨h0, h1, h2, h3, h4, h5, h6, h7, h8⟩ := h
  refine ⟨_, wI (h8 j hj).1 (by simp), ⟨by rw [mm_up_n _ _ (by omega), h0, upd_n (by omega)], by rw [mm_up_n _ _ (by omega), h1, upd_n (by omega), upd_n (by omega), upd_n (by omega), upd_n (by omega)], px_n h2 (by omega) (by omega), px_n h3 (by omega) (by omega), by rw [mm_up_n _ _ (by omega), h4, upd_n (by omega), upd_n (by omega), upd_n (by omega), upd_n (by omega), upd_n (by omega), upd_n (by omega), upd_n (by omega)], pR_n h5 (by omega), px_n h6 (by omega) (by omega), px_n h7 (by omega) (by omega), fun i hi => ?_⟩, Fz_up (by omega) (by omega)⟩
  by_cases hij : i = j
  · subst hij
    refine ⟨?_, px_n (h8 i hi).2 (by omega) (by omega)⟩
    rw [mm_up_s]
    simp [upd]
  · exact pS_n (h8 i hi) (by omega) (by omega) (by omega)
theorem w_r5 {M : mm_M} {z : Nat} {k : Nat → Int32} (h : St M z k) {j : Nat} (hj : j < 10) (v : Int32) : ∃ M', mm_pI 4 M (z + 7 + 2 * j) 5 v = some M' ∧ St M' z (upd k (412 + 11 * j) v) ∧ Fz z M M' := by
  obtain ⟨h0, h1, h2, h3, h4, h5, h6, h7, h8⟩ := h
  refine ⟨_, wI (h8 j hj).1 (by simp), ⟨by rw [mm_up_n _ _ (by omega), h0, upd_n (by omega)], by rw [mm_up_n _ _ (by omega), h1, upd_n (by omega), upd_n (by omega), upd_n (by omega), upd_n (by omega)], px_n h2 (by omega) (by omega), px_n h3 (by omega) (by omega), by rw [mm_up_n _ _ (by omega), h4, upd_n (by omega), upd_n (by omega), upd_n (by omega), upd_n (by omega), upd_n (by omega), upd_n (by omega), upd_n (by omega)], pR_n h5 (by omega), px_n h6 (by omega) (by omega), px_n h7 (by omega) (by omega), fun i hi => ?_⟩, Fz_up (by omega) (by omega)⟩
  by_cases hij : i = j
  · subst hij
    refine ⟨?_, px_n (h8 i hi).2 (by omega) (by omega)⟩
    rw [mm_up_s]
    simp [upd]
  · exact pS_n (h8 i hi) (by omega) (by omega) (by omega)
theorem w_f {M : mm_M} {z : Nat} {k : Nat → Int32} (h : St M z k) {j : Nat} (hj : j < 10) {i : Int32} (i0 : 0 ≤ i.toInt) (i1 : i.toInt < 6) (v : Int32) : ∃ M', mm_sI 0 M (z + 8 + 2 * j) i v = some M' ∧ St M' z (upd k (413 + 11 * j + i.toInt.toNat) v) ∧ Fz z M M' := by
  obtain ⟨h0, h1, h2, h3, h4, h5, h6, h7, h8⟩ := h
  obtain ⟨f, g1, g2⟩ := (h8 j hj).2
  refine ⟨_, wA g1 i0 i1, ⟨by rw [mm_up_n _ _ (by omega), h0, upd_n (by omega)], by rw [mm_up_n _ _ (by omega), h1, upd_n (by omega), upd_n (by omega), upd_n (by omega), upd_n (by omega)], px_n h2 (by omega) (by omega), px_n h3 (by omega) (by omega), by rw [mm_up_n _ _ (by omega), h4, upd_n (by omega), upd_n (by omega), upd_n (by omega), upd_n (by omega), upd_n (by omega), upd_n (by omega), upd_n (by omega)], pR_n h5 (by omega), px_n h6 (by omega) (by omega), px_n h7 (by omega) (by omega), fun q hq => ?_⟩, Fz_up (by omega) (by omega)⟩
  by_cases hij : q = j
  · subst hij
    refine ⟨?_, px_s g2 (by omega)⟩
    rw [mm_up_n _ _ (by omega), (h8 q hq).1, upd_n (by omega), upd_n (by omega), upd_n (by omega), upd_n (by omega), upd_n (by omega)]
  · exact pS_n (h8 q hq) (by omega) (by omega) (by omega)
