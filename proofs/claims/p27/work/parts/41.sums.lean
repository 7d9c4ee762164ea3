/-! sums of whole numbers, counts -/
def ti (f : Nat → Int) : Nat → Int
  | 0 => 0
  | n + 1 => ti f n + f n
theorem ti_congr {f g : Nat → Int} : ∀ {n : Nat}, (∀ i, i < n → f i = g i) → ti f n = ti g n
  | 0, _ => rfl
  | n + 1, h => by
    show ti f n + f n = ti g n + g n
    rw [ti_congr (fun i hi => h i (by omega)), h n (by omega)]
theorem ti_zero {f : Nat → Int} : ∀ {n : Nat}, (∀ i, i < n → f i = 0) → ti f n = 0
  | 0, _ => rfl
  | n + 1, h => by
    show ti f n + f n = 0
    rw [ti_zero (fun i hi => h i (by omega)), h n (by omega)]
    rfl
theorem ti_one {f g : Nat → Int} {i : Nat} : ∀ {n : Nat}, i < n → (∀ j, j < n → j ≠ i → g j = f j) → ti g n = ti f n + (g i - f i)
  | 0, h, _ => by omega
  | n + 1, hi, h => by
    show ti g n + g n = ti f n + f n + (g i - f i)
    by_cases hn : i = n
    · subst hn
      rw [ti_congr (f := g) (g := f) (fun j hj => h j (by omega) (by omega))]
      omega
    · rw [ti_one (n := n) (by omega) (fun j hj => h j (by omega)), h n (by omega) (by omega)]
      omega
theorem ti_le {f g : Nat → Int} : ∀ {n : Nat}, (∀ i, i < n → f i ≤ g i) → ti f n ≤ ti g n
  | 0, _ => Int.le_refl _
  | n + 1, h => by
    show ti f n + f n ≤ ti g n + g n
    have := ti_le (fun i hi => h i (by omega) : ∀ i, i < n → f i ≤ g i)
    have := h n (by omega)
    omega
theorem ti_bd {f : Nat → Int} {B : Int} : ∀ {n : Nat}, (∀ i, i < n → 0 ≤ f i ∧ f i ≤ B) → 0 ≤ ti f n ∧ ti f n ≤ n * B
  | 0, _ => by show (0 : Int) ≤ 0 ∧ (0 : Int) ≤ ((0 : Nat) : Int) * B; simp
  | n + 1, h => by
    have h1 := ti_bd (fun i hi => h i (by omega) : ∀ i, i < n → 0 ≤ f i ∧ f i ≤ B)
    have h2 := h n (by omega)
    have e : ((n + 1 : Nat) : Int) * B = n * B + B := by rw [Int.natCast_add, Int.add_mul]; simp
    show 0 ≤ ti f n + f n ∧ ti f n + f n ≤ ((n + 1 : Nat) : Int) * B
    rw [e]
    omega
theorem ti_nn {f : Nat → Int} : ∀ {n : Nat}, (∀ i, i < n → 0 ≤ f i) → 0 ≤ ti f n
  | 0, _ => Int.le_refl _
  | n + 1, h => by
    show 0 ≤ ti f n + f n
    have h1 := ti_nn (fun i hi => h i (by omega) : ∀ i, i < n → 0 ≤ f i)
    have h2 := h n (by omega)
    omega
theorem ti_mem {f : Nat → Int} : ∀ {n : Nat}, (∀ i, i < n → 0 ≤ f i) → ∀ i, i < n → f i ≤ ti f n
  | 0, _, i, hi => by omega
  | n + 1, h, i, hi => by
    show f i ≤ ti f n + f n
    have h2 := h n (by omega)
    by_cases hn : i = n
    · subst hn
      have := (ti_nn (fun j hj => h j (by omega) : ∀ j, j < i → 0 ≤ f j))
      omega
    · have := ti_mem (fun j hj => h j (by omega) : ∀ j, j < n → 0 ≤ f j) i (by omega)
      omega
/-- a sum of small numbers has no overflow -/
theorem su_ti {f : Nat → Int32} {B : Nat} : ∀ {n : Nat}, (∀ i, i < n → 0 ≤ (f i).toInt ∧ (f i).toInt ≤ B) → n * B < 2000000000 → (su f n).toInt = ti (fun i => (f i).toInt) n
  | 0, _, _ => rfl
  | n + 1, h, hb => by
    rw [Nat.succ_mul] at hb
    have h1 := su_ti (fun i hi => h i (by omega) : ∀ i, i < n → 0 ≤ (f i).toInt ∧ (f i).toInt ≤ B) (by omega)
    have h2 := h n (by omega)
    have h3 := ti_bd (f := fun i => (f i).toInt) (B := B) (n := n) (fun i hi => h i (by omega))
    have e : (n : Int) * (B : Int) = ((n * B : Nat) : Int) := by simp
    rw [e] at h3
    show (su f n + f n).toInt = ti (fun i => (f i).toInt) n + (f n).toInt
    rw [zz_a (by omega) (by omega), h1]
/-- the same from n places on -/
theorem cn_head (p : Nat → Bool) : ∀ n : Nat, cn p (n + 1) = (if p 0 then 1 else 0) + cn (fun t => p (t + 1)) n
  | 0 => by simp [cn]
  | n + 1 => by
    have h := cn_head p n
    show cn p (n + 1) + (if p (n + 1) then 1 else 0) = (if p 0 then 1 else 0) + (cn (fun t => p (t + 1)) n + (if p (n + 1) then 1 else 0))
    rw [h]
    omega
theorem cn_or (p q : Nat → Bool) : ∀ n : Nat, cn (fun t => p t || q t) n ≤ cn p n + cn q n
  | 0 => Nat.zero_le _
  | n + 1 => by
    have h := cn_or p q n
    show cn (fun t => p t || q t) n + (if (p n || q n) then 1 else 0) ≤ cn p n + (if p n then 1 else 0) + (cn q n + (if q n then 1 else 0))
    cases p n <;> cases q n <;> simp <;> omega
theorem cn_1 {p : Nat → Bool} : ∀ {n : Nat}, (∀ i j, i < n → j < n → p i = true → p j = true → i = j) → cn p n ≤ 1
  | 0, _ => Nat.zero_le _
  | n + 1, h => by
    show cn p n + (if p n then 1 else 0) ≤ 1
    by_cases hn : p n = true
    · have h0 : cn p n = 0 := by
        refine Nat.eq_zero_of_not_pos (fun q => ?_)
        obtain ⟨i, i1, i2⟩ := cn_pos.mp q
        have := h i n (by omega) (by omega) i2 hn
        omega
      rw [h0, if_pos hn]
      exact Nat.le_refl 1
    · rw [if_neg hn]
      exact cn_1 (fun i j hi hj => h i j (by omega) (by omega))
theorem cn_not (p : Nat → Bool) : ∀ n : Nat, cn p n + cn (fun t => !p t) n = n
  | 0 => rfl
  | n + 1 => by
    have h := cn_not p n
    show cn p n + (if p n then 1 else 0) + (cn (fun t => !p t) n + (if (!p n) then 1 else 0)) = n + 1
    cases p n <;> simp <;> omega
theorem cn_0 {p : Nat → Bool} {n : Nat} (h : ∀ i, i < n → p i = false) : cn p n = 0 := by
  refine Nat.eq_zero_of_not_pos (fun q => ?_)
  obtain ⟨i, i1, i2⟩ := cn_pos.mp q
  rw [h i i1] at i2
  cases i2
theorem cn_all {p : Nat → Bool} {n : Nat} (h : ∀ i, i < n → p i = true) : cn p n = n := by
  have h1 := cn_not p n
  rw [cn_0 (p := fun t => !p t) (fun i hi => by rw [h i hi]; rfl)] at h1
  omega
/-- not more parts of a row without overlaps have a mark than there are marks -/
theorem cn_marks (f : Nat → Int) (a z st : Int) (hz : 0 < z) (hst : z ≤ st) (n : Nat) : ∀ F : Nat, cn (fun t => (List.range F).any fun j => decide (a + t * st ≤ f j ∧ f j < a + t * st + z)) n ≤ F
  | 0 => Nat.le_of_eq (cn_0 (fun i _ => rfl))
  | F + 1 => by
    have h := cn_marks f a z st hz hst n F
    have e : (fun t : Nat => (List.range (F + 1)).any fun j => decide (a + t * st ≤ f j ∧ f j < a + t * st + z)) = fun t : Nat => ((List.range F).any fun j => decide (a + t * st ≤ f j ∧ f j < a + t * st + z)) || decide (a + t * st ≤ f F ∧ f F < a + t * st + z) := by
      funext t
      rw [List.range_succ, List.any_append]
      simp
    rw [e]
    refine Nat.le_trans (cn_or _ _ n) ?_
    have h1 : cn (fun t : Nat => decide (a + t * st ≤ f F ∧ f F < a + t * st + z)) n ≤ 1 := by
      refine cn_1 (fun i j _ _ hi hj => ?_)
      simp only [decide_eq_true_eq] at hi hj
      refine Classical.byContradiction fun hne => ?_
      rcases Nat.lt_or_gt_of_ne hne with q | q
      · have : ((i : Int) + 1) * st ≤ j * st := Int.mul_le_mul_of_nonneg_right (by omega) (by omega)
        rw [Int.add_mul, Int.one_mul] at this
        omega
      · have : ((j : Int) + 1) * st ≤ i * st := Int.mul_le_mul_of_nonneg_right (by omega) (by omega)
        rw [Int.add_mul, Int.one_mul] at this
        omega
    omega
