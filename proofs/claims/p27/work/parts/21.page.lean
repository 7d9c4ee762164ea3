/-! the cells of a State, at z, z + 1 .. z + 27, and its page: 0 columns, 1 rows, 2 size, 3 loss, 4 length of the pattern, 5 way, 6 strips, 7 lifted, 8 broken, 9 their length, 10 sawn, 11 thrown, 12.. pattern, 20.. wants, 164.. laid, 308.. hand, 408 + 11 i.. strip i -/
def px (M : mm_M) (a n : Nat) (k : Nat → Int32) (b : Nat) : Prop := ∃ f : Nat → Int32, M a = some (.inr (0, n, .inl f)) ∧ ∀ j, j < n → f j = k (b + j)
def pS (M : mm_M) (z i : Nat) (k : Nat → Int32) : Prop := M (z + 7 + 2 * i) = some (.inl (4, [.ref (z + 8 + 2 * i), .int (k (411 + 11 * i)), .int (k (408 + 11 * i)), .int (k (409 + 11 * i)), .int (k (410 + 11 * i)), .int (k (412 + 11 * i))])) ∧ px M (z + 8 + 2 * i) 6 k (413 + 11 * i)
def pR (M : mm_M) (z : Nat) : Prop := ∃ f : Nat → Option Nat, M (z + 5) = some (.inr (2, 10, .inr f)) ∧ ∀ i, i < 10 → f i = some (z + 7 + 2 * i)
def St (M : mm_M) (z : Nat) (k : Nat → Int32) : Prop :=
  M z = some (.inl (2, [.ref (z + 1), .ref (z + 4), .ref (z + 27), .int (k 7)])) ∧
  M (z + 1) = some (.inl (1, [.ref (z + 2), .ref (z + 3), .int (k 4), .int (k 5), .int (k 0), .int (k 1)])) ∧
  px M (z + 2) 144 k 20 ∧ px M (z + 3) 8 k 12 ∧
  M (z + 4) = some (.inl (3, [.ref (z + 5), .ref (z + 6), .int (k 6), .int (k 2), .int (k 3), .int (k 8), .int (k 9), .int (k 10), .int (k 11)])) ∧
  pR M z ∧ px M (z + 6) 100 k 308 ∧ px M (z + 27) 144 k 164 ∧ ∀ i, i < 10 → pS M z i k
def Fz (z : Nat) (M M' : mm_M) : Prop := ∀ a, (a < z ∨ z + 28 ≤ a) → M' a = M a
theorem Fz_rf {z : Nat} {M : mm_M} : Fz z M M := fun _ _ => rfl
theorem Fz_tr {z : Nat} {M M1 M2 : mm_M} (h : Fz z M M1) (h2 : Fz z M1 M2) : Fz z M M2 := fun a ha => (h2 a ha).trans (h a ha)
theorem Fz_up {z a : Nat} {M : mm_M} {o : mm_O} (h1 : z ≤ a) (h2 : a < z + 28) : Fz z M (mm_up M a o) := fun q hq => mm_up_n M o (by omega)
theorem upd_n {k : Nat → Int32} {i j : Nat} {v : Int32} (h : j ≠ i) : upd k i v j = k j := by simp [upd, h]
theorem upd_s {k : Nat → Int32} {i : Nat} {v : Int32} : upd k i v i = v := by simp [upd]
theorem px_n {M : mm_M} {a n b c i : Nat} {k : Nat → Int32} {v : Int32} {o : mm_O} (h : px M a n k b) (hc : a ≠ c) (hi : i < b ∨ b + n ≤ i) : px (mm_up M c o) a n (upd k i v) b := by
  obtain ⟨f, h1, h2⟩ := h
  exact ⟨f, by rw [mm_up_n _ _ hc]; exact h1, fun j hj => by rw [upd_n (by omega)]; exact h2 j hj⟩
theorem px_s {M : mm_M} {a n b j : Nat} {k : Nat → Int32} {v : Int32} {f : Nat → Int32} (h2 : ∀ j, j < n → f j = k (b + j)) (hj : j < n) : px (mm_up M a (.inr (0, n, .inl (upd f j v)))) a n (upd k (b + j) v) b := by
  refine ⟨upd f j v, mm_up_s _ _ _, fun i hi => ?_⟩
  by_cases h : i = j
  · subst h; rw [upd_s, upd_s]
  · rw [upd_n h, upd_n (by omega)]; exact h2 i hi
theorem pR_n {M : mm_M} {z c : Nat} {o : mm_O} (h : pR M z) (hc : z + 5 ≠ c) : pR (mm_up M c o) z := by
  obtain ⟨f, h1, h2⟩ := h
  exact ⟨f, by rw [mm_up_n _ _ hc]; exact h1, h2⟩
theorem pS_n {M : mm_M} {z i c j : Nat} {k : Nat → Int32} {v : Int32} {o : mm_O} (h : pS M z i k) (hc : z + 7 + 2 * i ≠ c) (hc2 : z + 8 + 2 * i ≠ c) (hj : j < 408 + 11 * i ∨ 419 + 11 * i ≤ j) : pS (mm_up M c o) z i (upd k j v) := by
  obtain ⟨h1, h2⟩ := h
  refine ⟨?_, px_n h2 hc2 (by omega)⟩
  rw [mm_up_n _ _ hc, h1, upd_n (by omega), upd_n (by omega), upd_n (by omega), upd_n (by omega), upd_n (by omega)]
theorem px_kept {M M' : mm_M} {a n b : Nat} {k : Nat → Int32} (h : px M a n k b) (hM : M' a = M a) : px M' a n k b := by
  obtain ⟨f, h1, h2⟩ := h
  exact ⟨f, by rw [hM]; exact h1, h2⟩
/-- what is not written stays -/
theorem St_kept {M M' : mm_M} {z : Nat} {k : Nat → Int32} (h : St M z k) (hM : ∀ a, z ≤ a → a < z + 28 → M' a = M a) : St M' z k := by
  obtain ⟨h0, h1, h2, h3, h4, ⟨f5, h5, h5'⟩, h6, h7, h8⟩ := h
  refine ⟨by rw [hM _ (by omega) (by omega)]; exact h0, by rw [hM _ (by omega) (by omega)]; exact h1, px_kept h2 (hM _ (by omega) (by omega)), px_kept h3 (hM _ (by omega) (by omega)), by rw [hM _ (by omega) (by omega)]; exact h4, ⟨f5, by rw [hM _ (by omega) (by omega)]; exact h5, h5'⟩, px_kept h6 (hM _ (by omega) (by omega)), px_kept h7 (hM _ (by omega) (by omega)), fun i hi => ?_⟩
  obtain ⟨g1, g2⟩ := h8 i hi
  exact ⟨by rw [hM _ (by omega) (by omega)]; exact g1, px_kept g2 (hM _ (by omega) (by omega))⟩
theorem px_congr {M : mm_M} {a n b : Nat} {k k' : Nat → Int32} (h : px M a n k b) (hk : ∀ j, b ≤ j → j < b + n → k' j = k j) : px M a n k' b := by
  obtain ⟨f, h1, h2⟩ := h
  exact ⟨f, h1, fun j hj => by rw [hk _ (by omega) (by omega)]; exact h2 j hj⟩
theorem St_congr {M : mm_M} {z : Nat} {k k' : Nat → Int32} (h : St M z k) (hk : ∀ j, j < 518 → k' j = k j) : St M z k' := by
  obtain ⟨h0, h1, h2, h3, h4, h5, h6, h7, h8⟩ := h
  refine ⟨by rw [hk 7 (by omega)]; exact h0, by rw [hk 4 (by omega), hk 5 (by omega), hk 0 (by omega), hk 1 (by omega)]; exact h1, px_congr h2 (fun j _ _ => hk j (by omega)), px_congr h3 (fun j _ _ => hk j (by omega)), by rw [hk 6 (by omega), hk 2 (by omega), hk 3 (by omega), hk 8 (by omega), hk 9 (by omega), hk 10 (by omega), hk 11 (by omega)]; exact h4, h5, px_congr h6 (fun j _ _ => hk j (by omega)), px_congr h7 (fun j _ _ => hk j (by omega)), fun i hi => ?_⟩
  obtain ⟨g1, g2⟩ := h8 i hi
  exact ⟨by rw [hk (411 + 11 * i) (by omega), hk (408 + 11 * i) (by omega), hk (409 + 11 * i) (by omega), hk (410 + 11 * i) (by omega), hk (412 + 11 * i) (by omega)]; exact g1, px_congr g2 (fun j _ _ => hk j (by omega))⟩
-- readings, once the cell is known
theorem rI {ci : Nat} {M : mm_M} {a k : Nat} {fs : List Value} {v : Int32} (h : M a = some (.inl (ci, fs))) (hk : fs[k]? = some (.int v)) : mm_gI ci M a k = some v := by simp [mm_gI, h, hk]
theorem rR {ci : Nat} {M : mm_M} {a k : Nat} {fs : List Value} {v : Nat} (h : M a = some (.inl (ci, fs))) (hk : fs[k]? = some (.ref v)) : mm_gR ci M a k = some v := by simp [mm_gR, h, hk]
theorem rC {ci : Nat} {M : mm_M} {a : Nat} {fs : List Value} (h : M a = some (.inl (ci, fs))) : mm_ck ci M a = some () := by simp [mm_ck, h]
theorem wI {ci : Nat} {M : mm_M} {a k : Nat} {fs : List Value} {v : Int32} (h : M a = some (.inl (ci, fs))) (hk : k < fs.length) : mm_pI ci M a k v = some (mm_up M a (.inl (ci, fs.set k (.int v)))) := by simp [mm_pI, h, hk]
theorem rL {M : mm_M} {a n t : Nat} {x : (Nat → Int32) ⊕ (Nat → Option Nat)} (h : M a = some (.inr (t, n, x))) (ht : t < 4) : mm_ln M a = some (Int32.ofNat n) := by simp [mm_ln, h, ht]
theorem rA {M : mm_M} {a n t : Nat} {f : Nat → Int32} {i : Int32} (h : M a = some (.inr (t, n, .inl f))) (h0 : 0 ≤ i.toInt) (h1 : i.toInt < n) : mm_aI t M a i = some (f i.toInt.toNat) := by
  simp only [mm_aI, h]
  rw [if_pos ⟨trivial, h0, h1⟩]
  rfl
theorem wA {M : mm_M} {a n t : Nat} {f : Nat → Int32} {i v : Int32} (h : M a = some (.inr (t, n, .inl f))) (h0 : 0 ≤ i.toInt) (h1 : i.toInt < n) : mm_sI t M a i v = some (mm_up M a (.inr (t, n, .inl (upd f i.toInt.toNat v)))) := by
  simp only [mm_sI, h]
  rw [if_pos ⟨trivial, h0, h1⟩]
  rfl
theorem rQ {M : mm_M} {a n t : Nat} {f : Nat → Option Nat} {i : Int32} {q : Nat} (h : M a = some (.inr (t, n, .inr f))) (h0 : 0 ≤ i.toInt) (h1 : i.toInt < n) (hf : f i.toInt.toNat = some q) : mm_aR t M a i = some q := by
  simp only [mm_aR, h]
  rw [if_pos ⟨trivial, h0, h1⟩]
  exact hf
theorem rX {M : mm_M} {a n b : Nat} {k : Nat → Int32} {i : Int32} (h : px M a n k b) (h0 : 0 ≤ i.toInt) (h1 : i.toInt < n) : mm_aI 0 M a i = some (k (b + i.toInt.toNat)) := by
  obtain ⟨f, h2, h3⟩ := h
  rw [rA h2 h0 h1, h3 _ (by omega)]
theorem rXl {M : mm_M} {a n b : Nat} {k : Nat → Int32} (h : px M a n k b) : mm_ln M a = some (Int32.ofNat n) := by
  obtain ⟨f, h2, h3⟩ := h
  exact rL h2 (by decide)
