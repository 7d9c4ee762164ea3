/-! laying all, as the reference does it -/
theorem su_one {f g : Nat → Int32} {i : Nat} : ∀ {n : Nat}, i < n → (∀ j, j < n → j ≠ i → g j = f j) → su g n = su f n + (g i - f i)
  | 0, h, _ => by omega
  | n + 1, hi, h => by
    show su g n + g n = su f n + f n + (g i - f i)
    by_cases hn : i = n
    · subst hn
      rw [su_congr (f := g) (g := f) (fun j hj => h j (by omega) (by omega)), Int32.add_assoc, Int32.add_comm (f i), Int32.sub_add_cancel]
    · rw [su_one (n := n) (by omega) (fun j hj => h j (by omega)), h n (by omega) (by omega), Int32.add_assoc, Int32.add_comm (g i - f i), Int32.add_assoc]
theorem i_sub {a c r : Int32} : a - c + r = a + r - c := by
  rw [Int32.sub_eq_add_neg, Int32.sub_eq_add_neg, Int32.add_assoc, Int32.add_comm (-c), ← Int32.add_assoc]
section MA
variable {M : mm_M} {y : Nat} {k m : Nat → Int32} {n : Int}
theorem pL_no {a b : Int32} (h : ∀ s, ¬ av k s) : pL k a b = k := by
  unfold pL
  rw [nf_eq (k := k) (w := (wn k a b).toInt) (Or.inl ⟨rfl, h⟩), if_pos rfl]
  split <;> rfl
theorem ofI_n {r : Int} (h1 : -1 ≤ r) (h2 : r ≤ 99) (h : r ≠ -1) : Int32.ofInt r ≠ -1 := by
  intro e
  rw [zz_e, ofI h1 h2, zm1] at e
  exact h e
theorem pL_ne {a b : Int32} {j : Nat} (hj : j < 144) (hb : -1 ≤ nf k (wn k a b).toInt ∧ nf k (wn k a b).toInt ≤ 99) (h : k (164 + j) ≠ -1) : pL k a b (164 + j) ≠ -1 := by
  unfold pL
  split
  · split
    · exact h
    · rename_i hf
      by_cases hq : 164 + j = 164 + (12 * b.toInt + a.toInt).toNat
      · rw [hq, upd_s]; exact ofI_n hb.1 hb.2 hf
      · rw [upd_n hq, pB_n (by omega) (by omega) (by omega) (by omega)]; exact h
  · exact h
theorem pL_this {a b : Int32} (hb : nb (av k) (wn k a b).toInt (nf k (wn k a b).toInt)) (hb2 : nf k (wn k a b).toInt ≤ 99) (h : ¬ ∀ s, ¬ av k s) : lx (pL k a b) a b ≠ -1 := by
  have hne : nf k (wn k a b).toInt ≠ -1 ∧ -1 ≤ nf k (wn k a b).toInt := by
    rcases hb with ⟨-, q⟩ | ⟨s, q, -⟩
    · exact absurd q h
    · rw [q]; omega
  unfold pL
  split
  · rw [if_neg hne.1]
    unfold lx
    rw [upd_s]
    exact ofI_n hne.2 hb2 hne.1
  · assumption
theorem lc_pL {a b : Nat} (ha : a < 12) (hb : b < 12) (hw : -1 ≤ nf k (wn k (nI a) (nI b)).toInt ∧ nf k (wn k (nI a) (nI b)).toInt ≤ 99) : lc (pL k (nI a) (nI b)) = lc k + (if lx k (nI a) (nI b) = -1 then (if nf k (wn k (nI a) (nI b)).toInt = -1 then 0 else 1) else 0) := by
  unfold pL
  have e1 := lx_nn k ha hb
  have ea := zz_nI a (by omega)
  have eb := zz_nI b (by omega)
  have ei : (12 * (nI b).toInt + (nI a).toInt).toNat = 12 * b + a := by omega
  rw [ei]
  split
  · rename_i h1
    split
    · rw [Int32.add_zero]
    · rename_i h2
      rw [e1] at h1
      unfold lc
      rw [su_one (f := fun j => if k (164 + j) = -1 then (0 : Int32) else 1) (i := 12 * b + a) (n := 144) (by omega) (fun j hj hne => by
        rw [upd_n (by omega), pB_n (by omega) (by omega) (by omega) (by omega)])]
      rw [upd_s, if_neg (ofI_n hw.1 hw.2 h2), if_pos h1]
      rfl
  · rw [Int32.add_zero]
/-- one cell -/
theorem m_step (h : Mo M y m) (R : PR k m) (hI : IP n k) {a b : Nat} (ha : (a : Int) < (k 0).toInt) (hb : (b : Int) < (k 1).toInt) :
    (∃ m' r, ff_X7_laysIfEmpty M y (nI (a + (k 0).toInt.toNat * b)) = some (r, wm M y m') ∧ PR (pL k (nI a) (nI b)) m' ∧ lc (pL k (nI a) (nI b)) = lc k + r) ∧ IP n (pL k (nI a) (nI b)) ∧
    (nb (av k) (wn k (nI a) (nI b)).toInt (nf k (wn k (nI a) (nI b)).toInt) ∧ -1 ≤ nf k (wn k (nI a) (nI b)).toInt ∧ nf k (wn k (nI a) (nI b)).toInt ≤ 99) := by
  obtain ⟨hp, hl, hr, hh⟩ := hI
  have hp' := hp
  unfold Rp at hp'
  have hpm := PR_Rp R hp
  have hrm := PR_Rs R hr
  have hin : ins k (nI a) (nI b) := ins_n (w := (k 0).toInt.toNat) (h := (k 1).toInt.toNat) (by omega) (by omega) (by omega) (by omega) hp
  have hw := wn_r hp hl hin
  obtain ⟨e2, e3, e4⟩ := m_near h hrm hw.1 hw.2
  rw [PR_nf R hr] at e2 e3 e4
  rw [PR_av R hr] at e3
  have e5 : -1 ≤ nf k (wn k (nI a) (nI b)).toInt := by
    rcases e3 with ⟨q, -⟩ | ⟨s, q, -⟩ <;> rw [q] <;> omega
  refine ⟨?_, IP_pL ⟨hp, hl, hr, hh⟩ hin e3 e4, e3, e5, e4⟩
  have hlt := cx_lt (w := (k 0).toInt.toNat) (h := (k 1).toInt.toNat) (x := a) (y := b) (by omega) (by omega) (by omega) (by omega)
  have hlx := lx_nn k (x := a) (y := b) (by omega) (by omega)
  have hml := R.ld a b ha hb
  have hlc := lc_pL (k := k) (a := a) (b := b) (by omega) (by omega) ⟨e5, e4⟩
  obtain ⟨m', l1, l2⟩ := m_lays h R ⟨hp, hl, hr, hh⟩ ha hb
  have ea := zz_nI a (by omega)
  have eb := zz_nI b (by omega)
  have ei : (12 * (nI b).toInt + (nI a).toInt).toNat = 12 * b + a := by omega
  simp only [ff_X7_laysIfEmpty, n_m h, c_m h, q_m h (ixm 164 164 z164 (by omega) (n := a + (k 0).toInt.toNat * b) (by omega)) (show 164 + (a + (k 0).toInt.toNat * b) < 518 by omega), Option.bind_some]
  rw [hlc]
  unfold pL
  rw [hml, ei, ← hlx]
  by_cases hc : lx k (nI a) (nI b) = -1
  · rw [if_pos hc, if_pos hc, if_pos hc, l1, Option.bind_some]
    by_cases hf : nf k (wn k (nI a) (nI b)).toInt = -1
    · refine ⟨m', 0, ?_, l2, by rw [if_pos hf]⟩
      show (if Int32.ofInt (nf k (wn k (nI a) (nI b)).toInt) = -1 then _ else _) = _
      rw [if_pos (by rw [hf]; rfl)]
    · refine ⟨m', 1, ?_, l2, by rw [if_neg hf]⟩
      show (if Int32.ofInt (nf k (wn k (nI a) (nI b)).toInt) = -1 then _ else _) = _
      rw [if_neg (ofI_n e5 e4 hf)]
  · rw [if_neg hc, if_neg hc, if_neg hc]
    exact ⟨m, 0, by rw [wm_self h], R, rfl⟩
theorem cO_nat {w h t : Int} (hw : 3 ≤ w ∧ w ≤ 12) (hh : 3 ≤ h ∧ h ≤ 12) (h0 : 0 ≤ t) (h1 : t < 2 * (w + h - 2)) : ∃ a b : Nat, cO w h t = a ∧ rO w h t = b ∧ (a : Int) < w ∧ (b : Int) < h ∧
    (a : Int) = (if t < w - 1 then t else if t < w - 1 + (h - 1) then w - 1 else if t < 2 * (w - 1) + (h - 1) then 2 * (w - 1) + (h - 1) - t else 0) ∧ (b : Int) = (if t < w - 1 then 0 else if t < w - 1 + (h - 1) then t - (w - 1) else if t < 2 * (w - 1) + (h - 1) then h - 1 else 2 * (w - 1) + 2 * (h - 1) - t) := by
  refine ⟨(cO w h t).toNat, (rO w h t).toNat, ?_, ?_, ?_, ?_, ?_, ?_⟩ <;> simp only [cO, rO] <;> (repeat' split) <;> omega
/-- every border cell has its number -/
theorem bn_cO {w h : Int} {a b : Nat} (hw : 3 ≤ w ∧ w ≤ 12) (hh : 3 ≤ h ∧ h ≤ 12) (ha : (a : Int) < w) (hb : (b : Int) < h) (hbo : a = 0 ∨ (a : Int) = w - 1 ∨ b = 0 ∨ (b : Int) = h - 1) : ∃ t : Nat, (t : Int) < 2 * (w + h - 2) ∧ cO w h t = a ∧ rO w h t = b := by
  refine ⟨(bn w h a b).toNat, ?_, ?_, ?_⟩ <;> unfold bn <;> try unfold cO
  all_goals try unfold rO
  all_goals (repeat' split)
  all_goals omega
/-- nothing can be had, or the first border cells are laid -/
def JB (k k0 : Nat → Int32) (t : Nat) : Prop := (∀ s, ¬ av k s) ∨ ∀ j : Nat, j < t → lx k (Int32.ofInt (cO (k0 0).toInt (k0 1).toInt j)) (Int32.ofInt (rO (k0 0).toInt (k0 1).toInt j)) ≠ -1
theorem JB_pL {k0 : Nat → Int32} {t : Nat} (hp : Rp k0) (h : JB k k0 t) (ht : (t : Int) ≤ 2 * ((k0 0).toInt + (k0 1).toInt - 2)) {a b : Int32} (hb : -1 ≤ nf k (wn k a b).toInt ∧ nf k (wn k a b).toInt ≤ 99) : JB (pL k a b) k0 t := by
  unfold Rp at hp
  rcases h with h | h
  · rw [pL_no h]; exact Or.inl h
  · refine Or.inr (fun j hj => ?_)
    have := h j hj
    obtain ⟨x, z, e1, e2, e3, e4, -, -⟩ := cO_nat (w := (k0 0).toInt) (h := (k0 1).toInt) (t := j) (by omega) (by omega) (by omega) (by omega)
    rw [e1, e2] at this ⊢
    have q1 := lx_nn k (x := x) (y := z) (by omega) (by omega)
    have q2 := lx_nn (pL k a b) (x := x) (y := z) (by omega) (by omega)
    rw [show Int32.ofInt (x : Int) = nI x from rfl, show Int32.ofInt (z : Int) = nI z from rfl] at this ⊢
    rw [q2]
    rw [q1] at this
    exact pL_ne (by omega) hb this
theorem m_border (h : Mo M y m) (R : PR k m) (hI : IP n k) : ∃ m', mm_it (mm_u3 (ff_X7_laysAll_l23 y (m 0 - 1) (m 1 - 1))) mm_fu ((0 : Int32), (0 : Int32), M) = some (lc (pb k (2 * ((k 0).toInt.toNat + (k 1).toInt.toNat - 2))) - lc k, nI (2 * ((k 0).toInt.toNat + (k 1).toInt.toNat - 2)), wm M y m') ∧
    PR (pb k (2 * ((k 0).toInt.toNat + (k 1).toInt.toNat - 2))) m' ∧ IP n (pb k (2 * ((k 0).toInt.toNat + (k 1).toInt.toNat - 2))) ∧ JB (pb k (2 * ((k 0).toInt.toNat + (k 1).toInt.toNat - 2))) k (2 * ((k 0).toInt.toNat + (k 1).toInt.toNat - 2)) := by
  have hp := hI.1
  have hp' := hp
  unfold Rp at hp'
  obtain ⟨w, ew⟩ : ∃ w : Nat, (k 0).toInt = w := ⟨(k 0).toInt.toNat, by omega⟩
  obtain ⟨r, er⟩ : ∃ r : Nat, (k 1).toInt = r := ⟨(k 1).toInt.toNat, by omega⟩
  have em0 := R.lo 0 (by omega)
  have em1 := R.lo 1 (by omega)
  have E1 : (m 0 - 1).toInt = w - 1 := by rw [em0, zz_s (by rw [z1]; omega) (by rw [z1]; omega), z1, ew]
  have E2 : (m 1 - 1).toInt = r - 1 := by rw [em1, zz_s (by rw [z1]; omega) (by rw [z1]; omega), z1, er]
  have E3 : ((m 0 - 1) + (m 1 - 1)).toInt = w - 1 + (r - 1) := by rw [zz_a (by omega) (by omega), E1, E2]
  have E5 : (2 * (m 0 - 1)).toInt = 2 * (w - 1) := by rw [zz_m (by rw [z2]; omega) (by rw [z2]; omega), z2, E1]
  have E5b : (2 * (m 1 - 1)).toInt = 2 * (r - 1) := by rw [zz_m (by rw [z2]; omega) (by rw [z2]; omega), z2, E2]
  have E6 : (2 * (m 0 - 1) + (m 1 - 1)).toInt = 2 * (w - 1) + (r - 1) := by rw [zz_a (by omega) (by omega), E5, E2]
  have E7 : (2 * (m 0 - 1) + 2 * (m 1 - 1)).toInt = 2 * (w - 1) + 2 * (r - 1) := by rw [zz_a (by omega) (by omega), E5, E5b]
  generalize m 0 - 1 = P at *
  generalize m 1 - 1 = Q at *
  rw [ew, er]
  simp only [Int.toNat_natCast]
  obtain ⟨e, g1, m', g2, g3, g4, g5⟩ := it_inv (body := mm_u3 (ff_X7_laysAll_l23 y P Q)) (fun t (s : Int32 × Int32 × mm_M) => ∃ m', s = (lc (pb k t) - lc k, nI t, wm M y m') ∧ PR (pb k t) m' ∧ IP n (pb k t) ∧ JB (pb k t) k t)
    (fun e => ∃ m', e = (lc (pb k (2 * (w + r - 2))) - lc k, nI (2 * (w + r - 2)), wm M y m') ∧ PR (pb k (2 * (w + r - 2))) m' ∧ IP n (pb k (2 * (w + r - 2))) ∧ JB (pb k (2 * (w + r - 2))) k (2 * (w + r - 2))) (2 * (w + r - 2)) (by
      rintro t s ht ⟨m1, rfl, R1, I1, J1⟩
      refine Or.inl ?_
      have et := zz_nI t (by omega)
      have H1 := Mo_w h m1
      have hk0 : pb k t 0 = k 0 := pb_w (by omega) (by omega) (by omega) (by omega) t
      have hk1 : pb k t 1 = k 1 := pb_w (by omega) (by omega) (by omega) (by omega) t
      have ear := m_ar (PR_Rp R1 I1.1)
      have h0 : m1 0 = k 0 := by rw [R1.lo 0 (by omega), hk0]
      have h1 : m1 1 = k 1 := by rw [R1.lo 1 (by omega), hk1]
      rw [h0, h1, ew, er] at ear
      obtain ⟨a, b, e1, e2, e3, e4, e5, e6⟩ := cO_nat (w := w) (h := r) (t := t) (by omega) (by omega) (by omega) (by omega)
      have hwr : a + w * b < 144 := cx_lt (w := w) (h := r) (by omega) (by omega) (by omega) (by omega)
      obtain ⟨⟨m2, q, s1, s2, s3⟩, s4, s5, s6⟩ := m_step H1 R1 I1 (a := a) (b := b) (by rw [hk0, ew]; exact e3) (by rw [hk1, er]; exact e4)
      have hnx : pb k (t + 1) = pL (pb k t) (nI a) (nI b) := by
        show pL (pb k t) _ _ = _
        rw [ew, er, e1, e2]
        rfl
      have J2 : JB (pb k (t + 1)) k (t + 1) := by
        rw [hnx]
        rcases JB_pL hp J1 (by omega) (a := nI a) (b := nI b) s6 with q | q
        · exact Or.inl q
        · by_cases hno : ∀ s, ¬ av (pb k t) s
          · rw [pL_no hno]; exact Or.inl hno
          · refine Or.inr (fun j hj => ?_)
            by_cases hjt : j = t
            · subst hjt
              rw [ew, er, e1, e2]
              exact pL_this s5 s6.2 hno
            · exact q j (by omega)
      rw [wm_wm] at s1
      rw [hk0, ew] at s1
      simp only [Int.toNat_natCast] at s1
      refine ⟨(lc (pb k (t + 1)) - lc k, nI (t + 1), wm M y m2), ?_, m2, rfl, by rw [hnx]; exact s2, by rw [hnx]; exact s4, J2⟩
      have k128 : ∀ X Y : Int32, X.toInt = a → Y.toInt = b → ff_X7_laysAll_j128 (wm M y m1) y (lc (pb k t) - lc k) P Q (nI t) X Y = some (.inl (lc (pb k (t + 1)) - lc k, nI (t + 1), wm M y m2)) := by
        intro X Y hX hY
        have hwb : w * b < 144 := by omega
        have e7 : (Y * k 0).toInt = (b : Int) * w := by
          have : (b : Int) * w = ((w * b : Nat) : Int) := by rw [Nat.mul_comm]; rfl
          rw [zz_m (by rw [hY, ew]; omega) (by rw [hY, ew]; omega), hY, ew]
        have e8 : X + Y * k 0 = nI (a + w * b) := by
          have : (b : Int) * w = ((w * b : Nat) : Int) := by rw [Nat.mul_comm]; rfl
          exact zz_nn (by rw [zz_a (by omega) (by omega), hX, e7]; omega)
        simp only [ff_X7_laysAll_j128, n_m H1, q0 H1, h0, c_m H1, e8, s1, Option.bind_some]
        show some (Sum.inl (lc (pb k t) - lc k + q, nI t + 1, wm M y m2)) = _
        rw [nI_1, i_sub, ← s3, ← hnx]
      show ff_X7_laysAll_l23 y P Q (lc (pb k t) - lc k) (nI t) (wm M y m1) = _
      simp only [ff_X7_laysAll_l23, ff_X7_laysAll_j77, c_m H1, m_around H1, h0, h1, Option.bind_some]
      rw [if_neg (by rw [zz_le]; omega)]
      simp only [zz_le, E1, E3, E6, et]
      by_cases c1 : (w : Int) - 1 ≤ t
      · by_cases c2 : (w : Int) - 1 + (r - 1) ≤ t
        · by_cases c3 : 2 * ((w : Int) - 1) + (r - 1) ≤ t
          · simp only [if_pos c1, if_pos c2, if_pos c3]
            rw [if_neg (by omega), if_neg (by omega), if_neg (by omega)] at e5 e6
            exact k128 _ _ (by rw [z0, e5]) (by rw [zz_s (by omega) (by omega), E7, et, e6])
          · simp only [if_pos c1, if_pos c2, if_neg c3]
            rw [if_neg (by omega), if_neg (by omega), if_pos (by omega)] at e5 e6
            exact k128 _ _ (by rw [zz_s (by omega) (by omega), E6, et, e5]) (by rw [E2, e6])
        · simp only [if_pos c1, if_neg c2]
          rw [if_neg (by omega), if_pos (by omega)] at e5 e6
          exact k128 _ _ (by rw [E1, e5]) (by rw [zz_s (by omega) (by omega), E1, et, e6])
      · simp only [if_neg c1]
        rw [if_pos (by omega)] at e5 e6
        exact k128 _ _ (by rw [et, e5]) (by rw [z0, e6])) (by
      rintro s ⟨m1, rfl, R1, I1, J1⟩
      have H1 := Mo_w h m1
      have et := zz_nI (2 * (w + r - 2)) (by omega)
      have hk0 : pb k (2 * (w + r - 2)) 0 = k 0 := pb_w (by omega) (by omega) (by omega) (by omega) _
      have hk1 : pb k (2 * (w + r - 2)) 1 = k 1 := pb_w (by omega) (by omega) (by omega) (by omega) _
      have ear := m_ar (PR_Rp R1 I1.1)
      have h0 : m1 0 = k 0 := by rw [R1.lo 0 (by omega), hk0]
      have h1 : m1 1 = k 1 := by rw [R1.lo 1 (by omega), hk1]
      rw [h0, h1, ew, er] at ear
      refine ⟨_, ?_, m1, rfl, R1, I1, J1⟩
      show ff_X7_laysAll_l23 y P Q _ (nI (2 * (w + r - 2))) (wm M y m1) = _
      simp only [ff_X7_laysAll_l23, c_m H1, m_around H1, h0, h1, Option.bind_some]
      rw [if_pos (by rw [zz_le]; omega)]) ((0 : Int32), (0 : Int32), M) mm_fu (mm_fu_gt (by omega)) ⟨m, by
        rw [wm_self h]
        show _ = (lc k - lc k, nI 0, M)
        rw [Int32.sub_self]; rfl, R, hI, Or.inr (fun j hj => by omega)⟩
  exact ⟨m', by rw [g1, g2], g3, g4, g5⟩
end MA
