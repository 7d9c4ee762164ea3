/-! the reference: its page lies in one array, at y + 1 -/
def Mo (M : mm_M) (y : Nat) (m : Nat → Int32) : Prop := (∃ sc tl rc, M y = some (.inl (7, [.ref (y + 1), .ref (y + 2), .ref (y + 3), .int sc, .ref (y + 4), .int tl, .ref (y + 5), .int rc]))) ∧ M (y + 1) = some (.inr (0, 518, .inl m))
def wm (M : mm_M) (y : Nat) (m : Nat → Int32) : mm_M := mm_up M (y + 1) (.inr (0, 518, .inl m))
theorem wm_wm (M : mm_M) (y : Nat) (m m' : Nat → Int32) : wm (wm M y m) y m' = wm M y m' := up_up _ _ _ _
theorem wm_self {M : mm_M} {y : Nat} {m : Nat → Int32} (h : Mo M y m) : wm M y m = M := by
  funext q
  unfold wm
  by_cases hq : q = y + 1
  · subst hq; rw [mm_up_s]; exact h.2.symm
  · rw [mm_up_n _ _ hq]
section MO
variable {M : mm_M} {y : Nat} {m : Nat → Int32}
theorem Mo_w (h : Mo M y m) (m' : Nat → Int32) : Mo (wm M y m') y m' := by
  obtain ⟨⟨a, b, c, h1⟩, h2⟩ := h
  exact ⟨⟨a, b, c, by unfold wm; rw [mm_up_n _ _ (by omega)]; exact h1⟩, mm_up_s _ _ _⟩
theorem n_m (h : Mo M y m) : mm_gR 7 M y 0 = some (y + 1) := by obtain ⟨⟨a, b, c, h1⟩, h2⟩ := h; exact rR h1 rfl
theorem c_m (h : Mo M y m) : mm_ck 7 M y = some () := by obtain ⟨⟨a, b, c, h1⟩, h2⟩ := h; exact rC h1
theorem q_m (h : Mo M y m) {i : Int32} {n : Nat} (hi : i.toInt = n) (hn : n < 518) : mm_aI 0 M (y + 1) i = some (m n) := by
  rw [rA h.2 (by omega) (by omega), hi]
  simp only [Int.toNat_natCast]
theorem s_m (h : Mo M y m) {i : Int32} {n : Nat} (hi : i.toInt = n) (hn : n < 518) (v : Int32) : mm_sI 0 M (y + 1) i v = some (wm M y (upd m n v)) := by
  rw [wA h.2 (by omega) (by omega), hi]
  simp only [Int.toNat_natCast]
  rfl
theorem q0 (h : Mo M y m) : mm_aI 0 M (y + 1) 0 = some (m 0) := q_m h (n := 0) rfl (by omega)
theorem q1 (h : Mo M y m) : mm_aI 0 M (y + 1) 1 = some (m 1) := q_m h (n := 1) rfl (by omega)
theorem q2 (h : Mo M y m) : mm_aI 0 M (y + 1) 2 = some (m 2) := q_m h (n := 2) rfl (by omega)
theorem q3 (h : Mo M y m) : mm_aI 0 M (y + 1) 3 = some (m 3) := q_m h (n := 3) rfl (by omega)
theorem q4 (h : Mo M y m) : mm_aI 0 M (y + 1) 4 = some (m 4) := q_m h (n := 4) rfl (by omega)
theorem q5 (h : Mo M y m) : mm_aI 0 M (y + 1) 5 = some (m 5) := q_m h (n := 5) rfl (by omega)
theorem q6 (h : Mo M y m) : mm_aI 0 M (y + 1) 6 = some (m 6) := q_m h (n := 6) rfl (by omega)
theorem q7 (h : Mo M y m) : mm_aI 0 M (y + 1) 7 = some (m 7) := q_m h (n := 7) rfl (by omega)
theorem q8 (h : Mo M y m) : mm_aI 0 M (y + 1) 8 = some (m 8) := q_m h (n := 8) rfl (by omega)
theorem q9 (h : Mo M y m) : mm_aI 0 M (y + 1) 9 = some (m 9) := q_m h (n := 9) rfl (by omega)
theorem q10 (h : Mo M y m) : mm_aI 0 M (y + 1) 10 = some (m 10) := q_m h (n := 10) rfl (by omega)
theorem q11 (h : Mo M y m) : mm_aI 0 M (y + 1) 11 = some (m 11) := q_m h (n := 11) rfl (by omega)
theorem q12 (h : Mo M y m) : mm_aI 0 M (y + 1) 12 = some (m 12) := q_m h (n := 12) rfl (by omega)
theorem m_in (M : mm_M) (a b c : Int32) : ff_X7_in M a b c = some (if b.toInt ≤ a.toInt ∧ a.toInt ≤ c.toInt then 1 else 0) := by
  simp only [ff_X7_in, zz_lt]
  split
  · rw [if_neg (by omega)]
  · split
    · rw [if_neg (by omega)]
    · rw [if_pos (by omega)]
theorem m_less (M : mm_M) (a b : Int32) : ∃ r, ff_X7_lesser M a b = some r ∧ r.toInt = min a.toInt b.toInt := by
  simp only [ff_X7_lesser, zz_le]
  split
  · exact ⟨b, rfl, by omega⟩
  · exact ⟨a, rfl, by omega⟩
theorem m_size (M : mm_M) {a : Int32} (h : -2147483648 < a.toInt) : ff_X7_size M a = some (mm_ab a) := by
  simp only [ff_X7_size, mm_ab]
  split
  · rfl
  · congr 1
theorem m_cell (h : Mo M y m) (hp : Rp m) (a b : Int32) : (ins m a b → ff_X7_isCell M y a b = some 1) ∧ (¬ ins m a b → ff_X7_isCell M y a b = some 0) := by
  unfold Rp at hp
  have e1 : (m 0 - 1).toInt = (m 0).toInt - 1 := zz_s (by rw [z1]; omega) (by rw [z1]; omega)
  have e2 : (m 1 - 1).toInt = (m 1).toInt - 1 := zz_s (by rw [z1]; omega) (by rw [z1]; omega)
  unfold ins
  simp only [ff_X7_isCell, n_m h, q0 h, q1 h, m_in, Option.bind_some, e1, e2, z0]
  constructor
  · rintro ⟨a1, a2, a3, a4⟩
    rw [if_pos (show 0 ≤ a.toInt ∧ a.toInt ≤ (m 0).toInt - 1 by omega), if_neg (by decide), if_pos (show 0 ≤ b.toInt ∧ b.toInt ≤ (m 1).toInt - 1 by omega), if_neg (by decide)]
  · intro hn
    by_cases c1 : 0 ≤ a.toInt ∧ a.toInt ≤ (m 0).toInt - 1
    · rw [if_pos c1, if_neg (by decide), if_neg (show ¬ (0 ≤ b.toInt ∧ b.toInt ≤ (m 1).toInt - 1) by omega), if_pos rfl]
    · rw [if_neg c1, if_pos rfl]
theorem m_cells (h : Mo M y m) : ff_X7_cells M y = some (m 0 * m 1) := by
  simp only [ff_X7_cells, n_m h, q0 h, q1 h, Option.bind_some]
theorem m_wh (hp : Rp m) : (m 0 * m 1).toInt = (m 0).toInt * (m 1).toInt ∧ 9 ≤ (m 0).toInt * (m 1).toInt ∧ (m 0).toInt * (m 1).toInt ≤ 144 := by
  unfold Rp at hp
  have h1 : (m 0).toInt * (m 1).toInt ≤ 12 * 12 := Int.mul_le_mul (by omega) (by omega) (by omega) (by omega)
  have h2 : (3 : Int) * 3 ≤ (m 0).toInt * (m 1).toInt := Int.mul_le_mul (by omega) (by omega) (by omega) (by omega)
  exact ⟨zz_m (by omega) (by omega), by omega, by omega⟩
theorem m_around (h : Mo M y m) : ff_X7_around M y = some (2 * (m 0 + m 1) - 4) := by
  simp only [ff_X7_around, n_m h, q0 h, q1 h, Option.bind_some]
theorem z4 : (4 : Int32).toInt = 4 := rfl
theorem m_ar (hp : Rp m) : (2 * (m 0 + m 1) - 4).toInt = 2 * ((m 0).toInt + (m 1).toInt - 2) := by
  unfold Rp at hp
  have e1 : (m 0 + m 1).toInt = (m 0).toInt + (m 1).toInt := zz_a (by omega) (by omega)
  have e2 : (2 * (m 0 + m 1)).toInt = 2 * ((m 0).toInt + (m 1).toInt) := by rw [zz_m (by rw [z2]; omega) (by rw [z2]; omega), z2, e1]
  rw [zz_s (by rw [z4]; omega) (by rw [z4]; omega), e2, z4]
  omega
/-- how many cells are laid, in the reference's order -/
def lq (m : Nat → Int32) (n : Nat) : Int32 := su (fun c => if m (164 + c) = -1 then 0 else 1) n
theorem z164 : (164 : Int32).toInt = 164 := rfl
theorem z20 : (20 : Int32).toInt = 20 := rfl
theorem z308 : (308 : Int32).toInt = 308 := rfl
theorem ixm (b : Int32) (B : Nat) (hb : b.toInt = B) (hB : B ≤ 1000) {n : Nat} (hn : n < 1000) : (b + nI n).toInt = ((B + n : Nat) : Int) := by
  have e := zz_nI n (by omega)
  rw [zz_a (by omega) (by omega), hb, e]
  omega
theorem m_laid (h : Mo M y m) (hp : Rp m) : ff_X7_laidCells M y = some (lq m ((m 0).toInt * (m 1).toInt).toNat) := by
  obtain ⟨e1, e2, e3⟩ := m_wh hp
  obtain ⟨N, eN⟩ : ∃ N : Nat, (m 0).toInt * (m 1).toInt = N := ⟨((m 0).toInt * (m 1).toInt).toNat, by omega⟩
  rw [eN] at e1 e2 e3 ⊢
  simp only [Int.toNat_natCast]
  have := it_for (body := mm_u2 (ff_X7_laidCells_l4 M y)) (fun t => (lq m t, nI t)) N (lq m N, nI N) (by
    intro t ht
    have et := zz_nI t (by omega)
    show ff_X7_laidCells_l4 M y _ _ = _
    simp only [ff_X7_laidCells_l4, ff_X7_laidCells_j32, c_m h, m_cells h, n_m h, Option.bind_some]
    rw [if_neg (by rw [zz_le]; omega), q_m h (ixm 164 164 z164 (by omega) (n := t) (by omega)) (by omega), Option.bind_some, nI_1]
    show _ = some (Sum.inl (lq m t + (if m (164 + t) = -1 then 0 else 1), nI (t + 1)))
    split <;> rfl) (by
    have et := zz_nI N (by omega)
    show ff_X7_laidCells_l4 M y _ _ = _
    simp only [ff_X7_laidCells_l4, c_m h, m_cells h, Option.bind_some]
    rw [if_pos (by rw [zz_le]; omega)]) mm_fu (mm_fu_gt (by omega))
  rw [show (lq m 0, nI 0) = ((0 : Int32), (0 : Int32)) from rfl] at this
  simp only [ff_X7_laidCells, this, Option.bind_some]
  rfl
theorem m_bo (h : Mo M y m) (hp : Rp m) {a b : Int32} (hi : ins m a b) : (bor m a b → ∃ r, ff_X7_borderOf M y a b = some r ∧ r.toInt = bn (m 0).toInt (m 1).toInt a.toInt b.toInt) ∧ (¬ bor m a b → ff_X7_borderOf M y a b = some (-1)) := by
  unfold ins at hi
  unfold Rp at hp
  have e1 : (m 0 - 1).toInt = (m 0).toInt - 1 := zz_s (by rw [z1]; omega) (by rw [z1]; omega)
  have e2 : (m 1 - 1).toInt = (m 1).toInt - 1 := zz_s (by rw [z1]; omega) (by rw [z1]; omega)
  have e3 : ((m 0 - 1) + (m 1 - 1)).toInt = (m 0).toInt - 1 + ((m 1).toInt - 1) := by rw [zz_a (by omega) (by omega), e1, e2]
  have e4 : ((m 0 - 1) + (m 1 - 1) + (m 0 - 1)).toInt = (m 0).toInt - 1 + ((m 1).toInt - 1) + ((m 0).toInt - 1) := by rw [zz_a (by omega) (by omega), e3, e1]
  have e5 : (2 * (m 0 - 1)).toInt = 2 * ((m 0).toInt - 1) := by rw [zz_m (by rw [z2]; omega) (by rw [z2]; omega), z2, e1]
  have e6 : (2 * (m 0 - 1) + (m 1 - 1)).toInt = 2 * ((m 0).toInt - 1) + ((m 1).toInt - 1) := by rw [zz_a (by omega) (by omega), e5, e2]
  have e7 : (2 * (m 0 - 1) + (m 1 - 1) + (m 1 - 1)).toInt = 2 * ((m 0).toInt - 1) + ((m 1).toInt - 1) + ((m 1).toInt - 1) := by rw [zz_a (by omega) (by omega), e6, e2]
  unfold bor bn
  simp only [ff_X7_borderOf, n_m h, q0 h, q1 h, Option.bind_some, zz_e, z0, e1, e2]
  constructor
  · intro hb
    split
    · exact ⟨a, rfl, rfl⟩
    · split
      · exact ⟨_, rfl, by rw [zz_a (by omega) (by omega), e1]; omega⟩
      · split
        · exact ⟨_, rfl, by rw [zz_s (by omega) (by omega), e4]⟩
        · rw [if_pos (by omega)]
          exact ⟨_, rfl, by rw [zz_s (by omega) (by omega), e7]; omega⟩
  · intro hb
    rw [if_neg (by omega), if_neg (by omega), if_neg (by omega), if_neg (by omega)]
theorem m_pat (h : Mo M y m) (hp : Rp m) {a : Int32} (h0 : 0 ≤ a.toInt) : ∃ r, mm_rm a (m 4) = some r ∧ r.toInt = a.toInt % (m 4).toInt ∧ mm_aI 0 M (y + 1) (12 + r) = some (m (12 + (a.toInt % (m 4).toInt).toNat)) := by
  unfold Rp at hp
  have hm := emod_r (a := a.toInt) (b := (m 4).toInt) (by omega)
  have er : (a - a / m 4 * m 4).toInt = a.toInt % (m 4).toInt := zz_rem h0 (by omega)
  refine ⟨_, zz_rm (by omega), er, q_m h (n := 12 + (a.toInt % (m 4).toInt).toNat) ?_ (by omega)⟩
  rw [zz_a (by rw [z12]; omega) (by rw [z12]; omega), z12, er]
  omega
theorem m_bw (h : Mo M y m) (hp : Rp m) {n : Int32} (h0 : 0 ≤ n.toInt) (h1 : n.toInt < 2 * ((m 0).toInt + (m 1).toInt - 2)) : ff_X7_borderWants M y n = some (bw m n.toInt) := by
  have hp' := hp
  unfold Rp at hp
  have e1 : (m 0 - 1).toInt = (m 0).toInt - 1 := zz_s (by rw [z1]; omega) (by rw [z1]; omega)
  have e2 : (m 1 - 1).toInt = (m 1).toInt - 1 := zz_s (by rw [z1]; omega) (by rw [z1]; omega)
  have e3 : ((m 0 - 1) + (m 1 - 1)).toInt = (m 0).toInt - 1 + ((m 1).toInt - 1) := by rw [zz_a (by omega) (by omega), e1, e2]
  have e5 : (2 * (m 0 - 1)).toInt = 2 * ((m 0).toInt - 1) := by rw [zz_m (by rw [z2]; omega) (by rw [z2]; omega), z2, e1]
  have e6 : (2 * (m 0 - 1) + (m 1 - 1)).toInt = 2 * ((m 0).toInt - 1) + ((m 1).toInt - 1) := by rw [zz_a (by omega) (by omega), e5, e2]
  have hj := sJ_r (w := (m 0).toInt) (h := (m 1).toInt) (n := n.toInt) (by omega) (by omega) h0 h1
  have hN : sN (m 0).toInt (m 1).toInt n.toInt ≤ 11 := by
    unfold sN; split <;> omega
  unfold bw
  simp only [ff_X7_borderWants, n_m h, q5 h, q4 h, q0 h, q1 h, Option.bind_some]
  by_cases c0 : m 5 = 0
  · rw [if_pos c0]
    rw [zz_e, z0] at c0
    obtain ⟨r, r1, r2, r3⟩ := m_pat h hp' h0
    rw [r1, Option.bind_some, r3, Option.bind_some]
    unfold sI
    rw [if_pos c0]
  · rw [if_neg c0]
    rw [zz_e, z0] at c0
    have key : ∀ (a b : Int32), a.toInt = sN (m 0).toInt (m 1).toInt n.toInt → b.toInt = sJ (m 0).toInt (m 1).toInt n.toInt → ff_X7_borderWants_j118 M y b a = some (m (12 + (sI (m 0).toInt (m 1).toInt (m 4).toInt (m 5).toInt n.toInt).toNat)) := by
      intro a b ea eb
      unfold sI
      rw [if_neg c0]
      simp only [ff_X7_borderWants_j118, n_m h, q5 h, q4 h, Option.bind_some]
      by_cases c1 : (m 5).toInt = 1
      · rw [if_pos (by rw [zz_e, z1]; exact c1), if_pos c1]
        have es : (a - b).toInt = a.toInt - b.toInt := zz_s (by omega) (by omega)
        obtain ⟨r, r1, r2⟩ := m_less M b (a - b)
        rw [r1, Option.bind_some]
        rw [es, ea, eb] at r2
        obtain ⟨u, u1, u2, u3⟩ := m_pat h hp' (a := r) (by omega)
        rw [u1, Option.bind_some, u3, Option.bind_some, r2]
      · rw [if_neg (by rw [zz_e, z1]; exact c1), if_neg c1]
        obtain ⟨u, u1, u2, -⟩ := m_pat h hp' (a := a) (by omega)
        rw [u1, Option.bind_some]
        rw [ea] at u2
        have hm := emod_r (a := sN (m 0).toInt (m 1).toInt n.toInt) (b := (m 4).toInt) (by omega)
        have e9 : (a - u).toInt = sN (m 0).toInt (m 1).toInt n.toInt - sN (m 0).toInt (m 1).toInt n.toInt % (m 4).toInt := by rw [zz_s (by omega) (by omega), ea, u2]
        by_cases c2 : sN (m 0).toInt (m 1).toInt n.toInt - sN (m 0).toInt (m 1).toInt n.toInt % (m 4).toInt ≤ sJ (m 0).toInt (m 1).toInt n.toInt
        · rw [if_neg (by rw [zz_lt]; omega), if_pos c2]
          have : mm_aI 0 M (y + 1) (12 + 0) = some (m 12) := q_m h (n := 12) (by decide) (by omega)
          rw [this, Option.bind_some]
          rfl
        · rw [if_pos (by rw [zz_lt]; omega), if_neg c2]
          obtain ⟨u', v1, v2, v3⟩ := m_pat h hp' (a := b) (by omega)
          rw [v1, Option.bind_some, v3, Option.bind_some, eb]
    have k90 : ∀ b : Int32, b.toInt = sJ (m 0).toInt (m 1).toInt n.toInt → ff_X7_borderWants_j90 M y n (m 0 - 1) (m 1 - 1) b = some (m (12 + (sI (m 0).toInt (m 1).toInt (m 4).toInt (m 5).toInt n.toInt).toNat)) := by
      intro b eb
      simp only [ff_X7_borderWants_j90, ff_X7_borderWants_j113, ff_X7_borderWants_j117, zz_lt, zz_le, e1, e3, e6]
      split
      · exact key _ _ (by rw [e1]; unfold sN; rw [if_pos (by omega)]) eb
      · split
        · exact key _ _ (by rw [e2]; unfold sN; rw [if_neg (by omega)]) eb
        · split
          · exact key _ _ (by rw [e2]; unfold sN; rw [if_neg (by omega)]) eb
          · exact key _ _ (by rw [e1]; unfold sN; rw [if_pos (by omega)]) eb
    simp only [zz_le, e1, e3, e6]
    split
    · split
      · split
        · have a1 : (n - 2 * (m 0 - 1)).toInt = n.toInt - 2 * ((m 0).toInt - 1) := by rw [zz_s (by omega) (by omega), e5]
          exact k90 _ (by rw [zz_s (by omega) (by omega), a1, e2]; unfold sJ; rw [if_neg (by omega), if_neg (by omega), if_neg (by omega)]; omega)
        · have a1 : (n - (m 0 - 1)).toInt = n.toInt - ((m 0).toInt - 1) := by rw [zz_s (by omega) (by omega), e1]
          exact k90 _ (by rw [zz_s (by omega) (by omega), a1, e2]; unfold sJ; rw [if_neg (by omega), if_neg (by omega), if_pos (by omega)]; omega)
      · exact k90 _ (by rw [zz_s (by omega) (by omega), e1]; unfold sJ; rw [if_neg (by omega), if_pos (by omega)])
    · exact k90 _ (by unfold sJ; rw [if_pos (by omega)])
/-- what a cell wants, by its number x + w y -/
def wq (m : Nat → Int32) (x y : Nat) : Int32 := if (x : Int) = 0 ∨ (x : Int) = (m 0).toInt - 1 ∨ (y : Int) = 0 ∨ (y : Int) = (m 1).toInt - 1 then bw m (bn (m 0).toInt (m 1).toInt x y) else m (20 + (x + (m 0).toInt.toNat * y))
theorem m_want (h : Mo M y m) (hp : Rp m) {w hh a b : Nat} (ew : (m 0).toInt = w) (eh : (m 1).toInt = hh) (ha : a < w) (hb : b < hh) : ff_X7_wanted M y (nI (a + w * b)) = some (wq m a b) := by
  have hp' := hp
  unfold Rp at hp'
  have hab : a + w * b < 144 := by
    have : w * b ≤ 12 * 11 := Nat.mul_le_mul (by omega) (by omega)
    omega
  have ec := zz_nI (a + w * b) (by omega)
  have e1 : (nI (a + w * b) - nI (a + w * b) / m 0 * m 0) = nI a := by
    rw [zz_e, zz_rem (by omega) (by omega), zz_nI a (by omega), ec, ew]
    have : (a + w * b) % w = a := by rw [Nat.add_mul_mod_self_left, Nat.mod_eq_of_lt ha]
    omega
  have e2 : nI (a + w * b) / m 0 = nI b := by
    rw [zz_e, zz_div (by omega) (by omega), zz_nI b (by omega), ec, ew]
    have : (a + w * b) / w = b := by rw [Nat.add_mul_div_left _ _ (by omega), Nat.div_eq_of_lt ha, Nat.zero_add]
    omega
  have hin : ins m (nI a) (nI b) := ins_n ew eh ha hb hp
  obtain ⟨b1, b2⟩ := m_bo h hp hin
  simp only [ff_X7_wanted, n_m h, q0 h, c_m h, Option.bind_some]
  rw [zz_rm (by omega), Option.bind_some, zz_dv (by omega), Option.bind_some, e1, e2]
  unfold wq
  have ea := zz_nI a (by omega)
  have eb := zz_nI b (by omega)
  by_cases hbo : bor m (nI a) (nI b)
  · obtain ⟨r, r1, r2⟩ := b1 hbo
    have g1 := bn_r (w := (m 0).toInt) (h := (m 1).toInt) (x := a) (y := b) (by omega) (by omega) (by omega) (by omega) (by omega) (by omega)
    have g2 := bn_r2 (w := (m 0).toInt) (h := (m 1).toInt) (x := a) (y := b) (by omega) (by omega) (by omega) (by omega) (by omega) (by omega)
    rw [ea, eb] at r2
    rw [r1, Option.bind_some, if_neg (by rw [zz_e, zm1]; omega), m_bw h hp (by omega) (by omega), Option.bind_some, r2]
    unfold bor at hbo
    rw [ea, eb] at hbo
    rw [if_pos hbo]
  · rw [b2 hbo, Option.bind_some, if_pos rfl]
    unfold bor at hbo
    rw [ea, eb] at hbo
    rw [if_neg hbo, q_m h (ixm 20 20 z20 (by omega) (n := a + w * b) (by omega)) (by omega), Option.bind_some, ew]
    simp only [Int.toNat_natCast]
end MO
