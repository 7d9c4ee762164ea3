/-! sums over the reference's cells; lacks; accounts; what meets -/
theorem su_ind {p : Nat → Prop} [DecidablePred p] : ∀ n : Nat, ∃ c : Nat, su (fun j => if p j then (0 : Int32) else 1) n = nI c ∧ c ≤ n ∧ (c = 0 ↔ ∀ j, j < n → p j)
  | 0 => ⟨0, rfl, by omega, by simp⟩
  | n + 1 => by
    obtain ⟨c, h1, h2, h3⟩ := su_ind (p := p) n
    show ∃ d, su (fun j => if p j then (0 : Int32) else 1) n + (if p n then (0 : Int32) else 1) = nI d ∧ _
    rw [h1]
    by_cases hp : p n
    · refine ⟨c, by rw [if_pos hp, Int32.add_zero], by omega, ?_⟩
      rw [h3]
      constructor
      · intro h j hj
        by_cases hjn : j = n
        · rw [hjn]; exact hp
        · exact h j (by omega)
      · intro h j hj; exact h j (by omega)
    · refine ⟨c + 1, by rw [if_neg hp, nI_1], by omega, ?_⟩
      constructor
      · intro h; omega
      · intro h; exact absurd (h n (by omega)) hp
section MD
variable {M : mm_M} {y : Nat} {k m : Nat → Int32} {n : Int}
/-- of a cell by its number -/
def dq (k : Nat → Int32) (w c : Nat) : Int32 := df k (nI (c % w)) (nI (c / w))
def lq2 (k : Nat → Int32) (w c : Nat) : Int32 := lx k (nI (c % w)) (nI (c / w))
theorem cdiv {w c r : Nat} (hw : 0 < w) (hc : c < w * r) : c % w < w ∧ c / w < r ∧ c % w + w * (c / w) = c := ⟨Nat.mod_lt c hw, Nat.div_lt_of_lt_mul hc, Nat.mod_add_div c w⟩
theorem m_diff (h : Mo M y m) (R : PR k m) (hI : IP n k) {a b : Nat} (ha : (a : Int) < (k 0).toInt) (hb : (b : Int) < (k 1).toInt) :
    ff_X7_wanted M y (nI (a + (k 0).toInt.toNat * b)) = some (wn k (nI a) (nI b)) ∧ mm_aI 0 M (y + 1) (164 + nI (a + (k 0).toInt.toNat * b)) = some (lx k (nI a) (nI b)) ∧ ff_X7_difference M y (nI (a + (k 0).toInt.toNat * b)) = some (mm_ab (wn k (nI a) (nI b) - lx k (nI a) (nI b))) := by
  obtain ⟨hp, hl, hr, hh⟩ := hI
  have hp' := hp
  unfold Rp at hp'
  have hpm := PR_Rp R hp
  have ew : (m 0).toInt = ((k 0).toInt.toNat : Nat) := by rw [R.lo 0 (by omega)]; omega
  have eh : (m 1).toInt = ((k 1).toInt.toNat : Nat) := by rw [R.lo 1 (by omega)]; omega
  have hin : ins k (nI a) (nI b) := ins_n (w := (k 0).toInt.toNat) (h := (k 1).toInt.toNat) (by omega) (by omega) (by omega) (by omega) hp
  have hw := wn_r hp hl hin
  have hx := lx_r hp hl hin
  have hlt := cx_lt (w := (k 0).toInt.toNat) (h := (k 1).toInt.toNat) (x := a) (y := b) (by omega) (by omega) (by omega) (by omega)
  have e1 := m_want h hpm ew eh (a := a) (b := b) (by omega) (by omega)
  rw [PR_wn R hp ha hb] at e1
  have e2 : mm_aI 0 M (y + 1) (164 + nI (a + (k 0).toInt.toNat * b)) = some (lx k (nI a) (nI b)) := by
    rw [q_m h (ixm 164 164 z164 (by omega) (n := a + (k 0).toInt.toNat * b) (by omega)) (by omega), R.ld a b ha hb, lx_nn k (by omega) (by omega)]
  refine ⟨e1, e2, ?_⟩
  simp only [ff_X7_difference, c_m h, e1, n_m h, e2, Option.bind_some]
  rw [m_size M (by rw [zz_s (by omega) (by omega)]; omega), Option.bind_some]
theorem m_wr (R : PR k m) (hp : Rp k) : (m 0 * m 1).toInt = (((k 0).toInt.toNat * (k 1).toInt.toNat : Nat) : Int) ∧ (k 0).toInt.toNat * (k 1).toInt.toNat ≤ 144 := by
  have hp' := hp
  unfold Rp at hp'
  have e := (m_wh (PR_Rp R hp)).1
  rw [R.lo 0 (by omega), R.lo 1 (by omega)] at e ⊢
  have : (k 0).toInt.toNat * (k 1).toInt.toNat ≤ 12 * 12 := Nat.mul_le_mul (by omega) (by omega)
  refine ⟨?_, by omega⟩
  rw [e, Int.natCast_mul]
  congr 1 <;> omega
/-- the greatest difference of the laid cells before c -/
def gI (k : Nat → Int32) (w : Nat) (c : Nat) (x : Int32) : Prop := (∀ q, q < c → lq2 k w q ≠ -1 → (dq k w q).toInt ≤ x.toInt) ∧ ((x = -4 ∧ ∀ q, q < c → lq2 k w q = -1) ∨ ∃ q, q < c ∧ lq2 k w q ≠ -1 ∧ dq k w q = x)
theorem m_diffs (h : Mo M y m) (R : PR k m) (hI : IP n k) (g : Int32) : ∃ x, ff_X7_differences M y g = some (if g = 0 then su (fun z => su (fun a => df k (nI a) (nI z)) (k 0).toInt.toNat) (k 1).toInt.toNat else x) ∧ gI k (k 0).toInt.toNat ((k 0).toInt.toNat * (k 1).toInt.toNat) x := by
  have hp := hI.1
  have hp' := hp
  unfold Rp at hp'
  obtain ⟨hwr1, hwr2⟩ := m_wr R hp
  obtain ⟨w, ew⟩ : ∃ w : Nat, (k 0).toInt = w := ⟨(k 0).toInt.toNat, by omega⟩
  obtain ⟨r, er⟩ : ∃ r : Nat, (k 1).toInt = r := ⟨(k 1).toInt.toNat, by omega⟩
  have hcell : ∀ c, c < w * r → ff_X7_wanted M y (nI c) = some (wn k (nI (c % w)) (nI (c / w))) ∧ mm_aI 0 M (y + 1) (164 + nI c) = some (lq2 k w c) ∧ ff_X7_difference M y (nI c) = some (mm_ab (wn k (nI (c % w)) (nI (c / w)) - lq2 k w c)) := by
    intro c hc
    obtain ⟨d1, d2, d3⟩ := cdiv (w := w) (by omega) hc
    have := m_diff h R hI (a := c % w) (b := c / w) (by omega) (by omega)
    rw [ew] at this
    simp only [Int.toNat_natCast, d3] at this
    exact this
  rw [ew, er] at hwr1 hwr2 ⊢
  simp only [Int.toNat_natCast] at hwr1 hwr2 ⊢
  obtain ⟨e, g1, x, g2, g3⟩ := it_inv (body := mm_u3 (ff_X7_differences_l8 M y g)) (fun c (s : Int32 × Int32 × Int32) => ∃ x, s = (su (dq k w) c, x, nI c) ∧ gI k w c x) (fun e => ∃ x, e = (su (dq k w) (w * r), x, nI (w * r)) ∧ gI k w (w * r) x) (w * r) (by
      rintro c s hc ⟨x, rfl, hx1, hx2⟩
      refine Or.inl ?_
      have ec := zz_nI c (by omega)
      obtain ⟨f1, f2, f3⟩ := hcell c hc
      show ∃ s', ff_X7_differences_l8 M y g (su (dq k w) c) x (nI c) = _ ∧ _
      simp only [ff_X7_differences_l8, ff_X7_differences_j61, ff_X7_differences_j62, c_m h, m_cells h, n_m h, f2, f3, Option.bind_some]
      rw [if_neg (by rw [zz_le]; omega), nI_1]
      have hsu : su (dq k w) (c + 1) = su (dq k w) c + dq k w c := rfl
      have hdq : dq k w c = if lq2 k w c = -1 then 0 else mm_ab (wn k (nI (c % w)) (nI (c / w)) - lq2 k w c) := rfl
      by_cases h1 : lq2 k w c = -1
      · rw [if_pos h1]
        refine ⟨_, rfl, x, by rw [hsu, hdq, if_pos h1, Int32.add_zero], fun q hq hl => ?_, ?_⟩
        · by_cases hqc : q = c
          · rw [hqc] at hl; exact absurd h1 hl
          · exact hx1 q (by omega) hl
        · rcases hx2 with ⟨a, b⟩ | ⟨q, a, b⟩
          · refine Or.inl ⟨a, fun q hq => ?_⟩
            by_cases hqc : q = c
            · rw [hqc]; exact h1
            · exact b q (by omega)
          · exact Or.inr ⟨q, by omega, b⟩
      · rw [if_neg h1]
        rw [if_neg h1] at hdq
        rw [← hdq]
        by_cases h2 : dq k w c ≤ x
        · rw [if_pos h2]
          refine ⟨_, rfl, x, rfl, fun q hq hl => ?_, ?_⟩
          · by_cases hqc : q = c
            · rw [hqc]; exact zz_le.mp h2
            · exact hx1 q (by omega) hl
          · rcases hx2 with ⟨a, b⟩ | ⟨q, a, b⟩
            · exfalso
              have hin : ins k (nI (c % w)) (nI (c / w)) := by
                obtain ⟨d1, d2, d3⟩ := cdiv (w := w) (by omega) hc
                exact ins_n ew er d1 d2 hp
              have b1 := wn_r hp hI.2.1 hin
              have b2 := lx_r hp hI.2.1 hin
              have : 0 ≤ (dq k w c).toInt := by
                rw [hdq, zz_ab (by
                  rw [zz_s (by unfold lq2; omega) (by unfold lq2; omega)]
                  unfold lq2
                  omega)]
                omega
              rw [a] at h2
              have h3 := zz_le.mp h2
              have : ((-4 : Int32)).toInt = -4 := rfl
              omega
            · exact Or.inr ⟨q, by omega, b⟩
        · rw [if_neg h2]
          refine ⟨_, rfl, dq k w c, rfl, fun q hq hl => ?_, Or.inr ⟨c, by omega, h1, rfl⟩⟩
          rw [zz_le] at h2
          by_cases hqc : q = c
          · rw [hqc]; omega
          · have := hx1 q (by omega) hl
            omega) (by
      rintro s ⟨x, rfl, hx⟩
      refine ⟨_, ?_, x, rfl, hx⟩
      have ec := zz_nI (w * r) (by omega)
      show ff_X7_differences_l8 M y g _ x (nI (w * r)) = _
      simp only [ff_X7_differences_l8, c_m h, m_cells h, Option.bind_some]
      rw [if_pos (by rw [zz_le]; omega)]) ((0 : Int32), (-4 : Int32), (0 : Int32)) mm_fu (mm_fu_gt (by omega)) ⟨-4, rfl, fun q hq => by omega, Or.inl ⟨rfl, fun q hq => by omega⟩⟩
  refine ⟨x, ?_, g3⟩
  simp only [ff_X7_differences, g1, g2, Option.bind_some]
  show (if g = 0 then some (su (dq k w) (w * r)) else some x) = _
  rw [su_mul]
  split
  · congr 1
    refine su_congr (fun z hz => su_congr (fun a ha => ?_))
    show df k (nI ((a + w * z) % w)) (nI ((a + w * z) / w)) = _
    rw [Nat.add_mul_mod_self_left, Nat.mod_eq_of_lt ha, Nat.add_mul_div_left _ _ (by omega), Nat.div_eq_of_lt ha, Nat.zero_add]
  · rfl
theorem m_lacks (h : Mo M y m) (R : PR k m) (hI : IP n k) {s : Int32} (h0 : 0 ≤ s.toInt) (h1 : s.toInt ≤ 99) : ff_X7_lacksOf M y s = some (mm_mx (wt k s - (k (308 + s.toInt.toNat) + rdy k s 10)) 0) := by
  have hp := hI.1
  have hp' := hp
  unfold Rp at hp'
  have hrm := PR_Rs R hI.2.2.1
  obtain ⟨hwr1, hwr2⟩ := m_wr R hp
  obtain ⟨w, ew⟩ : ∃ w : Nat, (k 0).toInt = w := ⟨(k 0).toInt.toNat, by omega⟩
  obtain ⟨r, er⟩ : ∃ r : Nat, (k 1).toInt = r := ⟨(k 1).toInt.toNat, by omega⟩
  have hcell : ∀ c, c < w * r → ff_X7_wanted M y (nI c) = some (wn k (nI (c % w)) (nI (c / w))) ∧ mm_aI 0 M (y + 1) (164 + nI c) = some (lq2 k w c) := by
    intro c hc
    obtain ⟨d1, d2, d3⟩ := cdiv (w := w) (by omega) hc
    have := m_diff h R hI (a := c % w) (b := c / w) (by omega) (by omega)
    rw [ew] at this
    simp only [Int.toNat_natCast, d3] at this
    exact ⟨this.1, this.2.1⟩
  have hwt : wt k s = su (fun c => if lq2 k w c = -1 ∧ wn k (nI (c % w)) (nI (c / w)) = s then (1 : Int32) else 0) (w * r) := by
    unfold wt
    rw [ew, er, su_mul]
    simp only [Int.toNat_natCast]
    refine su_congr (fun z hz => su_congr (fun a ha => ?_))
    show _ = if lx k (nI ((a + w * z) % w)) (nI ((a + w * z) / w)) = -1 ∧ wn k (nI ((a + w * z) % w)) (nI ((a + w * z) / w)) = s then (1 : Int32) else 0
    rw [Nat.add_mul_mod_self_left, Nat.mod_eq_of_lt ha, Nat.add_mul_div_left _ _ (by omega), Nat.div_eq_of_lt ha, Nat.zero_add]
  rw [ew, er] at hwr1 hwr2
  simp only [Int.toNat_natCast] at hwr1 hwr2
  have := it_for (body := mm_u2 (ff_X7_lacksOf_l4 M y s)) (fun t => (su (fun c => if lq2 k w c = -1 ∧ wn k (nI (c % w)) (nI (c / w)) = s then (1 : Int32) else 0) t, nI t)) (w * r) (wt k s, nI (w * r)) (by
    intro c hc
    have ec := zz_nI c (by omega)
    obtain ⟨f1, f2⟩ := hcell c hc
    show ff_X7_lacksOf_l4 M y s _ (nI c) = _
    simp only [ff_X7_lacksOf_l4, ff_X7_lacksOf_j40, ff_X7_lacksOf_j41, c_m h, m_cells h, n_m h, f1, f2, Option.bind_some]
    rw [if_neg (by rw [zz_le]; omega), nI_1]
    show _ = some (Sum.inl (_ + (if lq2 k w c = -1 ∧ wn k (nI (c % w)) (nI (c / w)) = s then (1 : Int32) else 0), nI (c + 1)))
    by_cases c1 : lq2 k w c = -1
    · by_cases c2 : wn k (nI (c % w)) (nI (c / w)) = s
      · rw [if_pos c1, if_pos c2, if_pos ⟨c1, c2⟩]
      · rw [if_pos c1, if_neg c2, if_neg (fun q => c2 q.2)]
    · rw [if_neg c1, if_neg (fun q => c1 q.1)]) (by
    have ec := zz_nI (w * r) (by omega)
    show ff_X7_lacksOf_l4 M y s _ (nI (w * r)) = _
    simp only [ff_X7_lacksOf_l4, c_m h, m_cells h, Option.bind_some]
    rw [if_pos (by rw [zz_le]; omega), hwt]) mm_fu (mm_fu_gt (by omega))
  simp only [ff_X7_lacksOf, show mm_it (mm_u2 (ff_X7_lacksOf_l4 M y s)) mm_fu ((0 : Int32), (0 : Int32)) = some (wt k s, nI (w * r)) from this, Option.bind_some, mm_u2, c_m h, m_ready h hrm h0 h1]
  rw [R.hi _ (by omega) (by omega), PR_rdy R hI.2.2.1]
  unfold mm_mx
  by_cases hc : (0 : Int32) ≤ wt k s - (k (308 + s.toInt.toNat) + rdy k s 10)
  · rw [if_pos hc, if_neg (by rw [zz_lt]; rw [zz_le] at hc; omega)]
  · rw [if_neg hc, if_pos (by rw [zz_lt]; rw [zz_le] at hc; omega)]
end MD
