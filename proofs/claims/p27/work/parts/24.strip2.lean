/-! strips and the stock, on the page -/
def Rs (k : Nat → Int32) : Prop := (5 ≤ (k 2).toInt ∧ (k 2).toInt ≤ 60) ∧ (0 ≤ (k 3).toInt ∧ (k 3).toInt ≤ 5) ∧ (0 ≤ (k 6).toInt ∧ (k 6).toInt ≤ 10) ∧
  ∀ i, i < 10 → (0 ≤ (k (408 + 11 * i)).toInt ∧ (k (408 + 11 * i)).toInt ≤ 1000) ∧ (0 ≤ (k (409 + 11 * i)).toInt ∧ (k (409 + 11 * i)).toInt ≤ 99) ∧ (0 ≤ (k (410 + 11 * i)).toInt ∧ (k (410 + 11 * i)).toInt ≤ (k (408 + 11 * i)).toInt) ∧ (0 ≤ (k (411 + 11 * i)).toInt ∧ (k (411 + 11 * i)).toInt ≤ 6) ∧ ((k 6).toInt ≤ i → (k (408 + 11 * i)).toInt = 0)
/-- a flaw of strip i from a up to, but without, b -/
def hf (k : Nat → Int32) (i : Nat) (a b : Int) : Bool := (List.range (k (411 + 11 * i)).toInt.toNat).any fun j => decide (a ≤ (k (413 + 11 * i + j)).toInt ∧ (k (413 + 11 * i + j)).toInt < b)
theorem hf_1 {k : Nat → Int32} {i : Nat} {a b : Int} : hf k i a b = true ↔ ∃ j, j < (k (411 + 11 * i)).toInt.toNat ∧ a ≤ (k (413 + 11 * i + j)).toInt ∧ (k (413 + 11 * i + j)).toInt < b := by
  simp [hf, List.any_eq_true]
/-- how many tesserae can be cut off strip i -/
def ta (k : Nat → Int32) (i : Nat) : Nat := if (k (408 + 11 * i)).toInt - (k (410 + 11 * i)).toInt < (k 2).toInt then 0 else (((k (408 + 11 * i)).toInt - (k (410 + 11 * i)).toInt - (k 2).toInt) / ((k 2).toInt + (k 3).toInt)).toNat + 1
/-- where the tessera t begins -/
def tp (k : Nat → Int32) (i t : Nat) : Int := (k (410 + 11 * i)).toInt + t * ((k 2).toInt + (k 3).toInt)
/-- the tessera t is good -/
def tg (k : Nat → Int32) (i t : Nat) : Bool := !hf k i (tp k i t) (tp k i t + (k 2).toInt)
def cn (p : Nat → Bool) : Nat → Nat
  | 0 => 0
  | n + 1 => cn p n + (if p n then 1 else 0)
theorem cn_le (p : Nat → Bool) : ∀ n, cn p n ≤ n
  | 0 => Nat.le_refl 0
  | n + 1 => by
    have := cn_le p n
    show cn p n + (if p n then 1 else 0) ≤ n + 1
    split <;> omega
theorem cn_pos {p : Nat → Bool} : ∀ {n : Nat}, 0 < cn p n ↔ ∃ i, i < n ∧ p i = true
  | 0 => by simp [cn]
  | n + 1 => by
    show 0 < cn p n + (if p n then 1 else 0) ↔ _
    constructor
    · intro h
      by_cases hp : p n = true
      · exact ⟨n, by omega, hp⟩
      · rw [if_neg hp] at h
        obtain ⟨i, h1, h2⟩ := cn_pos.mp (by omega : 0 < cn p n)
        exact ⟨i, by omega, h2⟩
    · rintro ⟨i, h1, h2⟩
      by_cases hi : i = n
      · subst hi; rw [if_pos h2]; omega
      · have : 0 < cn p n := cn_pos.mpr ⟨i, by omega, h2⟩
        omega
theorem cn_congr {p q : Nat → Bool} : ∀ {n : Nat}, (∀ i, i < n → p i = q i) → cn p n = cn q n
  | 0, _ => rfl
  | n + 1, h => by
    show cn p n + (if p n then 1 else 0) = cn q n + (if q n then 1 else 0)
    rw [cn_congr (fun i hi => h i (by omega)), h n (by omega)]
/-- good ones among them -/
def ga (k : Nat → Int32) (i : Nat) : Nat := cn (tg k i) (ta k i)
theorem div_b {a s : Int} (ha : 0 ≤ a) (hs : 0 < s) : 0 ≤ a / s ∧ (a / s) * s ≤ a ∧ a < (a / s) * s + s := by
  have h1 := Int.ediv_mul_le a (b := s) (by omega)
  have h2 := Int.lt_ediv_add_one_mul_self a hs
  have h3 := Int.ediv_nonneg ha (by omega : 0 ≤ s)
  refine ⟨h3, h1, ?_⟩
  have : (a / s + 1) * s = (a / s) * s + s := by rw [Int.add_mul, Int.one_mul]
  omega
/-- the tessera t lies in the strip just for t below ta -/
theorem ta_iff {k : Nat → Int32} (hr : Rs k) {i : Nat} (t : Nat) : t < ta k i ↔ tp k i t + (k 2).toInt ≤ (k (408 + 11 * i)).toInt := by
  obtain ⟨h2, h3, h6, hs⟩ := hr
  unfold ta tp
  generalize (k 2).toInt = s at *
  generalize (k 3).toInt = l at *
  generalize (k (408 + 11 * i)).toInt = L at *
  generalize (k (410 + 11 * i)).toInt = b at *
  have hm : (0 : Int) ≤ t * (s + l) := Int.mul_nonneg (by omega) (by omega)
  split
  · constructor
    · intro h; omega
    · intro h; exfalso; omega
  · obtain ⟨d1, d2, d3⟩ := div_b (a := L - b - s) (s := s + l) (by omega) (by omega)
    generalize (L - b - s) / (s + l) = q at *
    obtain ⟨n, rfl⟩ : ∃ n : Nat, q = n := ⟨q.toNat, by omega⟩
    constructor
    · intro h
      have : (t : Int) * (s + l) ≤ n * (s + l) := Int.mul_le_mul_of_nonneg_right (by omega) (by omega)
      omega
    · intro h
      have h5 : (t : Int) * (s + l) < (n + 1) * (s + l) := by rw [Int.add_mul, Int.one_mul]; omega
      have h6 : (t : Int) < n + 1 := Int.lt_of_mul_lt_mul_right h5 (by omega)
      omega
theorem ta_le {k : Nat → Int32} (hr : Rs k) {i : Nat} (hi : i < 10) : ta k i ≤ 200 := by
  rcases Nat.lt_or_ge 200 (ta k i) with h | h
  · have h1 := (ta_iff hr (i := i) 200).mp h
    obtain ⟨h2, h3, h6, hs⟩ := hr
    have := hs i hi
    unfold tp at h1
    have : (200 : Int) * 5 ≤ (200 : Nat) * ((k 2).toInt + (k 3).toInt) := by
      rw [show ((200 : Nat) : Int) = 200 from rfl]; omega
    omega
  · exact h
section SL
variable {M : mm_M} {z : Nat} {k : Nat → Int32}
theorem s_left (h : St M z k) {i : Nat} (hi : i < 10) : ff_X4_left M (z + 7 + 2 * i) = some (k (408 + 11 * i) - k (410 + 11 * i)) := by
  simp only [ff_X4_left, g_r2 h hi, g_r4 h hi, Option.bind_some]
theorem mm_fu_gt {n : Nat} (h : n < 10000) : n < mm_fu := h
theorem s_hf (h : St M z k) (hr : Rs k) {i : Nat} (hi : i < 10) (a b : Int32) : ff_X4_hasFlawIn M (z + 7 + 2 * i) a b = some (if hf k i a.toInt b.toInt then 1 else 0) := by
  obtain ⟨-, -, -, hs⟩ := hr
  obtain ⟨-, -, -, hf6, -⟩ := hs i hi
  generalize hn : (k (411 + 11 * i)).toInt.toNat = n
  have hb : ∀ (x : Int32), 0 ≤ x.toInt → x.toInt < n → ff_X4_hasFlawIn_l2 M (z + 7 + 2 * i) a b x = (if a.toInt ≤ (k (413 + 11 * i + x.toInt.toNat)).toInt ∧ (k (413 + 11 * i + x.toInt.toNat)).toInt < b.toInt then some (.inr (.inr 1)) else some (.inl (x + 1))) := by
    intro x h0 h1
    simp only [ff_X4_hasFlawIn_l2, ff_X4_hasFlawIn_j41, g_r1 h hi, g_r0 h hi, l_f h hi, a_f h hi h0 (by omega), Option.bind_some]
    rw [if_neg (by rw [zz_le]; omega), if_neg (by rw [zz_le, show (6 : Int32).toInt = 6 from rfl]; omega)]
    by_cases c1 : k (413 + 11 * i + x.toInt.toNat) < a
    · rw [if_pos c1, if_neg (by rw [zz_lt] at c1; omega)]
    · rw [if_neg c1]
      rw [zz_lt] at c1
      by_cases c2 : b ≤ k (413 + 11 * i + x.toInt.toNat)
      · rw [if_pos c2, if_neg (by rw [zz_le] at c2; omega)]
      · rw [if_neg c2, if_pos (by rw [zz_le] at c2; omega)]
  have he : ∀ (x : Int32), x.toInt = n → ff_X4_hasFlawIn_l2 M (z + 7 + 2 * i) a b x = some (.inr (.inl x)) := by
    intro x h0
    simp only [ff_X4_hasFlawIn_l2, g_r1 h hi, Option.bind_some]
    rw [if_pos (by rw [zz_le]; omega)]
  obtain ⟨e, h1, h2⟩ := it_inv (body := mm_u1 (ff_X4_hasFlawIn_l2 M (z + 7 + 2 * i) a b)) (fun j (x : Int32) => x.toInt = j ∧ ∀ q, q < j → ¬ (a.toInt ≤ (k (413 + 11 * i + q)).toInt ∧ (k (413 + 11 * i + q)).toInt < b.toInt))
    (fun e => (∃ x, e = .inl x ∧ hf k i a.toInt b.toInt = false) ∨ (e = .inr 1 ∧ hf k i a.toInt b.toInt = true)) n (by
      intro j x hj ⟨hx, hq⟩
      show (∃ s', ff_X4_hasFlawIn_l2 M (z + 7 + 2 * i) a b x = _ ∧ _) ∨ (∃ e, ff_X4_hasFlawIn_l2 M (z + 7 + 2 * i) a b x = _ ∧ _)
      rw [hb x (by omega) (by omega)]
      have hxj : x.toInt.toNat = j := by omega
      rw [hxj]
      split
      · rename_i hc
        exact Or.inr ⟨_, rfl, Or.inr ⟨rfl, hf_1.mpr ⟨j, by omega, hc⟩⟩⟩
      · rename_i hc
        refine Or.inl ⟨_, rfl, ?_, ?_⟩
        · rw [zz_a (by rw [z1]; omega) (by rw [z1]; omega), z1]; omega
        · intro q hq2
          by_cases hqj : q = j
          · subst hqj; exact hc
          · exact hq q (by omega)) (by
      intro x ⟨hx, hq⟩
      refine ⟨_, he x hx, Or.inl ⟨x, rfl, ?_⟩⟩
      cases hh : hf k i a.toInt b.toInt with
      | false => rfl
      | true =>
        obtain ⟨j, h3, h4⟩ := hf_1.mp hh
        exact absurd h4 (hq j (by omega))) (0 : Int32) mm_fu (mm_fu_gt (by omega)) ⟨rfl, fun q hq => absurd hq (by omega)⟩
  simp only [ff_X4_hasFlawIn, h1, Option.bind_some]
  rcases h2 with ⟨x, rfl, h3⟩ | ⟨rfl, h3⟩
  · rw [h3]; rfl
  · rw [h3]; rfl
theorem s_ta (h : St M z k) (hr : Rs k) {i : Nat} (hi : i < 10) : ff_X4_tesseraeAhead M (z + 7 + 2 * i) (k 2) (k 3) = some (nI (ta k i)) := by
  have hr' := hr
  obtain ⟨h2, h3, h6, hs⟩ := hr
  have hsi := hs i hi
  have e1 : (k 2 + k 3).toInt = (k 2).toInt + (k 3).toInt := zz_a (by omega) (by omega)
  have e2 : (k (408 + 11 * i) - k (410 + 11 * i)).toInt = (k (408 + 11 * i)).toInt - (k (410 + 11 * i)).toInt := zz_s (by omega) (by omega)
  simp only [ff_X4_tesseraeAhead, g_r2 h hi, g_r4 h hi, Option.bind_some]
  rw [if_neg (by rw [zz_le, z0]; omega)]
  unfold ta
  by_cases hc : k 2 ≤ k (408 + 11 * i) - k (410 + 11 * i)
  · rw [if_pos hc]
    rw [zz_le, e2] at hc
    rw [if_neg (by omega), zz_dv (by omega), Option.bind_some]
    have e3 : (k (408 + 11 * i) - k (410 + 11 * i) - k 2).toInt = (k (408 + 11 * i)).toInt - (k (410 + 11 * i)).toInt - (k 2).toInt := by rw [zz_s (by omega) (by omega), e2]
    have e4 : ((k (408 + 11 * i) - k (410 + 11 * i) - k 2) / (k 2 + k 3)).toInt = ((k (408 + 11 * i)).toInt - (k (410 + 11 * i)).toInt - (k 2).toInt) / ((k 2).toInt + (k 3).toInt) := by rw [zz_div (by omega) (by omega), e3, e1]
    obtain ⟨d1, d2, d3⟩ := div_b (a := (k (408 + 11 * i)).toInt - (k (410 + 11 * i)).toInt - (k 2).toInt) (s := (k 2).toInt + (k 3).toInt) (by omega) (by omega)
    have d4 : ((k (408 + 11 * i)).toInt - (k (410 + 11 * i)).toInt - (k 2).toInt) / ((k 2).toInt + (k 3).toInt) ≤ (k (408 + 11 * i)).toInt - (k (410 + 11 * i)).toInt - (k 2).toInt := Int.ediv_le_self _ (by omega)
    congr 1
    apply zz_nn
    rw [zz_a (by rw [z1]; omega) (by rw [z1]; omega), e4, z1]
    omega
  · rw [if_neg hc]
    rw [zz_le, e2] at hc
    rw [if_pos (by omega)]
    rfl
theorem tp_r (hr : Rs k) {i t : Nat} (hi : i < 10) (ht : t ≤ ta k i) : 0 ≤ tp k i t ∧ tp k i t ≤ 1065 ∧ (t < ta k i → tp k i t + (k 2).toInt ≤ 1000) := by
  have h0 := fun (q : Nat) => ta_iff hr (i := i) q
  obtain ⟨h2, h3, h6, hs⟩ := hr
  have hsi := hs i hi
  have hm : (0 : Int) ≤ t * ((k 2).toInt + (k 3).toInt) := Int.mul_nonneg (by omega) (by omega)
  refine ⟨by unfold tp; omega, ?_, fun h => by have := (h0 t).mp h; omega⟩
  cases t with
  | zero => unfold tp; simp; omega
  | succ t =>
    have := (h0 t).mp (by omega)
    unfold tp at this ⊢
    rw [show ((t + 1 : Nat) : Int) = (t : Int) + 1 from rfl, Int.add_mul, Int.one_mul]
    omega
theorem tp_s (k : Nat → Int32) (i t : Nat) : tp k i (t + 1) = tp k i t + ((k 2).toInt + (k 3).toInt) := by
  unfold tp
  rw [show ((t + 1 : Nat) : Int) = (t : Int) + 1 from rfl, Int.add_mul, Int.one_mul]
  omega
theorem s_ga (h : St M z k) (hr : Rs k) {i : Nat} (hi : i < 10) : ff_X4_goodTesseraeAhead M (z + 7 + 2 * i) (k 2) (k 3) = some (nI (ga k i)) := by
  have hr' := hr
  have hle := ta_le hr hi
  obtain ⟨h2, h3, h6, hs⟩ := hr
  have hsi := hs i hi
  have e1 : (k 2 + k 3).toInt = (k 2).toInt + (k 3).toInt := zz_a (by omega) (by omega)
  have hT : (nI (ta k i)).toInt = ta k i := zz_nI _ (by omega)
  simp only [ff_X4_goodTesseraeAhead, c_r h hi, s_ta h hr' hi, g_r4 h hi, Option.bind_some]
  have := it_for (body := mm_u3 (ff_X4_goodTesseraeAhead_l19 M (z + 7 + 2 * i) (k 2) (k 3) (nI (ta k i)))) (fun t => (nI (cn (tg k i) t), Int32.ofInt (tp k i t), nI t)) (ta k i) (nI (ga k i), Int32.ofInt (tp k i (ta k i)), nI (ta k i)) (by
    intro t ht
    have hcl := cn_le (tg k i) t
    obtain ⟨t1, t2, t3⟩ := tp_r hr' hi (Nat.le_of_lt ht)
    have ep : (Int32.ofInt (tp k i t)).toInt = tp k i t := by rw [Int32.toInt_ofInt]; exact zz_bm (by omega) (by omega)
    have ep2 : (Int32.ofInt (tp k i t) + k 2).toInt = tp k i t + (k 2).toInt := by rw [zz_a (by omega) (by omega), ep]
    have et : (nI t).toInt = t := zz_nI _ (by omega)
    have ec : (nI (cn (tg k i) t)).toInt = cn (tg k i) t := zz_nI _ (by omega)
    have en : Int32.ofInt (tp k i t) + (k 2 + k 3) = Int32.ofInt (tp k i (t + 1)) := by
      rw [zz_e, zz_a (by omega) (by omega), ep, e1, Int32.toInt_ofInt, zz_bm (by rw [tp_s]; omega) (by rw [tp_s]; omega), tp_s]
    show ff_X4_goodTesseraeAhead_l19 M (z + 7 + 2 * i) (k 2) (k 3) (nI (ta k i)) _ _ _ = _
    simp only [ff_X4_goodTesseraeAhead_l19, ff_X4_goodTesseraeAhead_j41, c_r h hi, s_hf h hr' hi, Option.bind_some]
    rw [if_neg (by rw [zz_le]; omega), ep, ep2, en, nI_1]
    show _ = some (Sum.inl (nI (cn (tg k i) t + (if tg k i t then 1 else 0)), _, _))
    by_cases hg : hf k i (tp k i t) (tp k i t + (k 2).toInt) = true
    · have : tg k i t = false := by simp [tg, hg]
      rw [hg, this]
      simp [nI_1]
    · have hg2 : hf k i (tp k i t) (tp k i t + (k 2).toInt) = false := by simpa using hg
      have : tg k i t = true := by simp [tg, hg2]
      rw [hg2, this]
      simp [nI_1]) (by
    show ff_X4_goodTesseraeAhead_l19 M (z + 7 + 2 * i) (k 2) (k 3) (nI (ta k i)) _ _ _ = _
    simp only [ff_X4_goodTesseraeAhead_l19]
    rw [if_pos (Int32.le_refl _)]
    rfl) mm_fu (mm_fu_gt (by omega))
  have h00 : (nI (cn (tg k i) 0), Int32.ofInt (tp k i 0), nI 0) = ((0 : Int32), k (410 + 11 * i), (0 : Int32)) := by
    have : Int32.ofInt (tp k i 0) = k (410 + 11 * i) := by
      unfold tp
      simp
    rw [this]
    rfl
  rw [h00] at this
  rw [this]
  rfl
theorem s_gg (h : St M z k) (hr : Rs k) {i : Nat} (hi : i < 10) : ff_X4_givesGood M (z + 7 + 2 * i) (k 2) (k 3) = some (if 0 < ga k i then 1 else 0) := by
  have hr' := hr
  have hle := ta_le hr hi
  obtain ⟨h2, h3, h6, hs⟩ := hr
  have hsi := hs i hi
  have e1 : (k 2 + k 3).toInt = (k 2).toInt + (k 3).toInt := zz_a (by omega) (by omega)
  have hT : (nI (ta k i)).toInt = ta k i := zz_nI _ (by omega)
  simp only [ff_X4_givesGood, c_r h hi, s_ta h hr' hi, g_r4 h hi, Option.bind_some]
  obtain ⟨e, h1, h4⟩ := it_inv (body := mm_u2 (ff_X4_givesGood_l16 M (z + 7 + 2 * i) (k 2) (k 3) (nI (ta k i)))) (fun t (s : Int32 × Int32) => s.1.toInt = tp k i t ∧ s.2.toInt = t ∧ ∀ q, q < t → tg k i q = false)
    (fun e => (∃ x, e = .inl x ∧ ¬ 0 < ga k i) ∨ (e = .inr 1 ∧ 0 < ga k i)) (ta k i) (by
      rintro t ⟨x4, x5⟩ ht ⟨hx, hx5, hq⟩
      dsimp only at hx hx5
      obtain ⟨t1, t2, t3⟩ := tp_r hr' hi (Nat.le_of_lt ht)
      have ep2 : (x4 + k 2).toInt = tp k i t + (k 2).toInt := by rw [zz_a (by omega) (by omega), hx]
      show (∃ s', ff_X4_givesGood_l16 M (z + 7 + 2 * i) (k 2) (k 3) (nI (ta k i)) x4 x5 = _ ∧ _) ∨ (∃ e, ff_X4_givesGood_l16 M (z + 7 + 2 * i) (k 2) (k 3) (nI (ta k i)) x4 x5 = _ ∧ _)
      simp only [ff_X4_givesGood_l16, c_r h hi, s_hf h hr' hi, Option.bind_some]
      rw [if_neg (by rw [zz_le]; omega), hx, ep2]
      by_cases hg : hf k i (tp k i t) (tp k i t + (k 2).toInt) = true
      · have hgt : tg k i t = false := by simp [tg, hg]
        rw [hg]
        refine Or.inl ⟨(x4 + (k 2 + k 3), x5 + 1), by rfl, ?_, ?_, ?_⟩
        · show (x4 + (k 2 + k 3)).toInt = _
          rw [zz_a (by omega) (by omega), e1, hx, tp_s]
        · show (x5 + 1).toInt = _
          rw [zz_a (by rw [z1]; omega) (by rw [z1]; omega), z1]; omega
        · intro q hq2
          by_cases hqj : q = t
          · subst hqj; exact hgt
          · exact hq q (by omega)
      · have hg2 : hf k i (tp k i t) (tp k i t + (k 2).toInt) = false := by simpa using hg
        have hgt : tg k i t = true := by simp [tg, hg2]
        rw [hg2]
        exact Or.inr ⟨.inr 1, by rfl, Or.inr ⟨rfl, cn_pos.mpr ⟨t, ht, hgt⟩⟩⟩) (by
      rintro ⟨x4, x5⟩ ⟨hx, hx5, hq⟩
      dsimp only at hx hx5
      refine ⟨.inl (x4, x5), ?_, Or.inl ⟨_, rfl, fun hp => ?_⟩⟩
      · show ff_X4_givesGood_l16 M (z + 7 + 2 * i) (k 2) (k 3) (nI (ta k i)) x4 x5 = _
        simp only [ff_X4_givesGood_l16]
        rw [if_pos (by rw [zz_le]; omega)]
      · obtain ⟨q, h5, h6⟩ := cn_pos.mp hp
        rw [hq q h5] at h6
        cases h6) (k (410 + 11 * i), (0 : Int32)) mm_fu (mm_fu_gt (by omega)) ⟨by unfold tp; simp, rfl, fun q hq => absurd hq (by omega)⟩
  rw [h1, Option.bind_some]
  rcases h4 with ⟨x, rfl, h5⟩ | ⟨rfl, h5⟩
  · rw [if_neg h5]; rfl
  · rw [if_pos h5]; rfl
end SL
