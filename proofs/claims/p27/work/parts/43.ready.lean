/-! what a cut makes of the tesserae ahead, of those that are ready -/
section RY
variable {k k' : Nat → Int32} {g n : Int}
theorem ta_congr {q : Nat} (h2 : k' 2 = k 2) (h3 : k' 3 = k 3) (h8 : k' (408 + 11 * q) = k (408 + 11 * q)) (h10 : k' (410 + 11 * q) = k (410 + 11 * q)) : ta k' q = ta k q := by
  unfold ta
  rw [h2, h3, h8, h10]
theorem tg_congr {q : Nat} (h2 : k' 2 = k 2) (h3 : k' 3 = k 3) (h10 : k' (410 + 11 * q) = k (410 + 11 * q)) (h11 : k' (411 + 11 * q) = k (411 + 11 * q)) (hf : ∀ j, j < (k (411 + 11 * q)).toInt.toNat → k' (413 + 11 * q + j) = k (413 + 11 * q + j)) (t : Nat) : tg k' q t = tg k q t := by
  unfold tg tp
  rw [h2, h3, h10, hf_congr h11 hf]
theorem ga_congr {q : Nat} (hr : Rs k) (hq : q < 10) (h2 : k' 2 = k 2) (h3 : k' 3 = k 3) (hb : ∀ j, 408 + 11 * q ≤ j → j < 419 + 11 * q → j ≠ 412 + 11 * q → k' j = k j) : ga k' q = ga k q := by
  have hs := hr.2.2.2 q hq
  unfold ga
  rw [ta_congr h2 h3 (hb _ (by omega) (by omega) (by omega)) (hb _ (by omega) (by omega) (by omega))]
  exact cn_congr (fun t _ => tg_congr h2 h3 (hb _ (by omega) (by omega) (by omega)) (hb _ (by omega) (by omega) (by omega)) (fun j hj => hb _ (by omega) (by omega) (by omega)) t)
theorem ga_le (hr : Rs k) {i : Nat} (hi : i < 10) : ga k i ≤ 200 := Nat.le_trans (cn_le _ _) (ta_le hr hi)
theorem pc_ta (hr : Rs k) {i : Nat} (hi : i < 10) (hc : 0 < ta k i) : ta (pc k i) i + 1 = ta k i ∧ ∀ t, t + 1 < ta k i → tg (pc k i) i t = tg k i (t + 1) := by
  have e1 : (pcs k i 1 (410 + 11 * i)).toInt = min (tp k i 1) (k (408 + 11 * i)).toInt ∧ Rs (pcs k i 1) := pcs_b hr hi 1 hc
  have e4 : (pc k i (410 + 11 * i)).toInt = min (tp k i 1) (k (408 + 11 * i)).toInt := e1.1
  have hr' : Rs (pc k i) := e1.2
  have h2 : pc k i 2 = k 2 := pc_n (by omega) (by omega) (by omega) (by omega) (by omega)
  have h3 : pc k i 3 = k 3 := pc_n (by omega) (by omega) (by omega) (by omega) (by omega)
  have h8 : pc k i (408 + 11 * i) = k (408 + 11 * i) := pc_n (by omega) (by omega) (by omega) (by omega) (by omega)
  have r1 := hr.1
  have r2 := hr.2.1
  have etp : ∀ t : Nat, tp k i (t + 1) = tp k i 1 + t * ((k 2).toInt + (k 3).toInt) := by
    intro t
    unfold tp
    rw [Int.natCast_add, Int.add_mul]
    omega
  have etp' : ∀ t : Nat, tp (pc k i) i t = min (tp k i 1) (k (408 + 11 * i)).toInt + t * ((k 2).toInt + (k 3).toInt) := by
    intro t
    show (pc k i (410 + 11 * i)).toInt + t * ((pc k i 2).toInt + (pc k i 3).toInt) = _
    rw [e4, h2, h3]
  have hnn : ∀ t : Nat, 0 ≤ (t : Int) * ((k 2).toInt + (k 3).toInt) := fun t => Int.mul_nonneg (by omega) (by omega)
  have key : ∀ t : Nat, t < ta (pc k i) i ↔ t + 1 < ta k i := by
    intro t
    rw [ta_iff hr', ta_iff hr, h2, h8, etp' t, etp t]
    have := hnn t
    constructor <;> intro q <;> omega
  have hta : ta (pc k i) i + 1 = ta k i := by
    have k1 := key (ta (pc k i) i)
    have k2 := key (ta k i - 1)
    omega
  refine ⟨hta, fun t ht => ?_⟩
  have hlt := (ta_iff hr (i := i) (t + 1)).mp ht
  have hm : min (tp k i 1) (k (408 + 11 * i)).toInt = tp k i 1 := by
    have := hnn t
    rw [etp t] at hlt
    omega
  have e5 : tp (pc k i) i t = tp k i (t + 1) := by rw [etp' t, etp t, hm]
  unfold tg
  rw [e5, h2, hf_congr (k := k) (k' := pc k i) (pc_n (by omega) (by omega) (by omega) (by omega) (by omega)) (fun j hj => by
    have := hr.2.2.2 i hi
    exact pc_n (by omega) (by omega) (by omega) (by omega) (by omega))]
theorem pc_ga (hr : Rs k) {i : Nat} (hi : i < 10) (hc : 0 < ta k i) : ga (pc k i) i + (if tg k i 0 then 1 else 0) = ga k i := by
  obtain ⟨h1, h2⟩ := pc_ta hr hi hc
  unfold ga
  rw [← h1, cn_head, cn_congr (p := tg (pc k i) i) (q := fun t => tg k i (t + 1)) (fun t ht => h2 t (by omega))]
  omega
theorem pc_gq (hr : Rs k) {i q : Nat} (hi : i < 10) (hq : q < 10) (hne : q ≠ i) : ga (pc k i) q = ga k q := by
  have w : ∀ j, j ≠ 410 + 11 * i → j ≠ 412 + 11 * i → j ≠ 10 → j ≠ 8 → j ≠ 9 → pc k i j = k j := fun j a b c d e => pc_n a b c d e
  exact ga_congr hr hq (w 2 (by omega) (by omega) (by omega) (by omega) (by omega)) (w 3 (by omega) (by omega) (by omega) (by omega) (by omega)) (fun j h1 h2 h3 => w j (by omega) (by omega) (by omega) (by omega) (by omega))
/-- the tesserae that are ready of a shade -/
def rdI (k : Nat → Int32) (s : Nat) : Int := (k (308 + s)).toInt + ti (fun i => if (k (409 + 11 * i)).toInt = s then (ga k i : Int) else 0) 10
theorem rdI_congr {s : Nat} (hh : k' (308 + s) = k (308 + s)) (hs : ∀ i, i < 10 → k' (409 + 11 * i) = k (409 + 11 * i) ∧ ga k' i = ga k i) : rdI k' s = rdI k s := by
  unfold rdI
  rw [hh, ti_congr (f := fun i => if (k' (409 + 11 * i)).toInt = s then (ga k' i : Int) else 0) (g := fun i => if (k (409 + 11 * i)).toInt = s then (ga k i : Int) else 0) (fun i hi => by show (if (k' (409 + 11 * i)).toInt = s then (ga k' i : Int) else 0) = _; rw [(hs i hi).1, (hs i hi).2])]
theorem rdI_b (hr : Rs k) (hh : Rh n k) {s : Nat} (hs : s < 100) : 0 ≤ ti (fun i => if (k (409 + 11 * i)).toInt = s then (ga k i : Int) else 0) 10 ∧ ti (fun i => if (k (409 + 11 * i)).toInt = s then (ga k i : Int) else 0) 10 ≤ 2000 ∧ 0 ≤ rdI k s := by
  have h1 := ti_bd (f := fun i => if (k (409 + 11 * i)).toInt = s then (ga k i : Int) else 0) (B := 200) (n := 10) (fun i hi => by
    have := ga_le hr hi
    show 0 ≤ (if (k (409 + 11 * i)).toInt = s then (ga k i : Int) else 0) ∧ (if (k (409 + 11 * i)).toInt = s then (ga k i : Int) else 0) ≤ 200
    split <;> omega)
  have h2 := hh s hs
  unfold rdI
  omega
theorem rdI_i (hr : Rs k) (hh : Rh 2000 k) {x : Int32} (hx : 0 ≤ x.toInt ∧ x.toInt ≤ 99) : (k (308 + x.toInt.toNat) + rdy k x 10).toInt = rdI k x.toInt.toNat := by
  have b := rdI_b hr hh (s := x.toInt.toNat) (by omega)
  have h2 := hh x.toInt.toNat (by omega)
  have e1 : (rdy k x 10).toInt = ti (fun i => if (k (409 + 11 * i)).toInt = x.toInt.toNat then (ga k i : Int) else 0) 10 := by
    unfold rdy
    rw [su_ti (B := 200) (fun i hi => by
      have := ga_le hr hi
      have e := zz_nI (ga k i) (by omega)
      show 0 ≤ (if k (409 + 11 * i) = x then nI (ga k i) else 0).toInt ∧ (if k (409 + 11 * i) = x then nI (ga k i) else 0).toInt ≤ ((200 : Nat) : Int)
      split
      · rw [e]; omega
      · rw [z0]; omega) (by omega)]
    refine ti_congr (fun i hi => ?_)
    have := ga_le hr hi
    have e := zz_nI (ga k i) (by omega)
    show (if k (409 + 11 * i) = x then nI (ga k i) else 0).toInt = if (k (409 + 11 * i)).toInt = x.toInt.toNat then (ga k i : Int) else 0
    by_cases hc : k (409 + 11 * i) = x
    · rw [if_pos hc, if_pos (by rw [hc]; omega), e]
    · rw [if_neg hc, if_neg (fun q => hc (by rw [zz_e]; omega)), z0]
  rw [zz_a (by omega) (by omega), e1]
  rfl
theorem rdI_pos (hr : Rs k) (hh : Rh n k) {s : Nat} (hs : s < 100) : 0 < rdI k s ↔ av k s := by
  have b := rdI_b hr hh hs
  have h2 := hh s hs
  constructor
  · intro q
    by_cases h0 : 0 < (k (308 + s)).toInt
    · exact Or.inl ⟨hs, h0⟩
    · right
      refine Classical.byContradiction fun hn => ?_
      have : ti (fun i => if (k (409 + 11 * i)).toInt = s then (ga k i : Int) else 0) 10 = 0 := ti_zero (fun i hi => by
        show (if (k (409 + 11 * i)).toInt = s then (ga k i : Int) else 0) = 0
        split
        · rename_i hc
          refine Classical.byContradiction fun hg => hn ⟨i, hi, hc, by omega⟩
        · rfl)
      unfold rdI at q
      omega
  · rintro (⟨-, q⟩ | ⟨i, i1, i2, i3⟩)
    · unfold rdI
      omega
    · have := ti_mem (f := fun i => if (k (409 + 11 * i)).toInt = s then (ga k i : Int) else 0) (n := 10) (fun j hj => by show 0 ≤ if (k (409 + 11 * j)).toInt = s then (ga k j : Int) else 0; split <;> omega) i i1
      have e : (if (k (409 + 11 * i)).toInt = s then (ga k i : Int) else 0) = ga k i := if_pos i2
      simp only [e] at this
      unfold rdI
      omega
theorem rdI_pc (hr : Rs k) {i : Nat} (hi : i < 10) (hc : 0 < ta k i) {s : Nat} (hs : s < 100) : rdI (pc k i) s = rdI k s - (if (k (409 + 11 * i)).toInt = s then (if tg k i 0 then 1 else 0) else 0) := by
  have w : ∀ j, j ≠ 410 + 11 * i → j ≠ 412 + 11 * i → j ≠ 10 → j ≠ 8 → j ≠ 9 → pc k i j = k j := fun j a b c d e => pc_n a b c d e
  unfold rdI
  rw [w (308 + s) (by omega) (by omega) (by omega) (by omega) (by omega), ti_one (f := fun i => if (k (409 + 11 * i)).toInt = s then (ga k i : Int) else 0) (i := i) (n := 10) hi (fun j hj hne => by
    show (if (pc k i (409 + 11 * j)).toInt = s then (ga (pc k i) j : Int) else 0) = if (k (409 + 11 * j)).toInt = s then (ga k j : Int) else 0
    rw [w (409 + 11 * j) (by omega) (by omega) (by omega) (by omega) (by omega), pc_gq hr hi hj hne])]
  rw [w (409 + 11 * i) (by omega) (by omega) (by omega) (by omega) (by omega)]
  have hg := pc_ga hr hi hc
  split
  · split
    · rename_i ht
      rw [if_pos ht] at hg
      omega
    · rename_i ht
      rw [if_neg ht] at hg
      omega
  · omega
theorem rdI_hand {s q : Nat} {v : Int32} {d : Int} (hv : v.toInt = (k (308 + q)).toInt + d) (hr : Rs k) (hq : q < 100) : rdI (upd k (308 + q) v) s = rdI k s + (if s = q then d else 0) := by
  unfold rdI
  rw [ti_congr (f := fun i => if (upd k (308 + q) v (409 + 11 * i)).toInt = s then (ga (upd k (308 + q) v) i : Int) else 0) (g := fun i => if (k (409 + 11 * i)).toInt = s then (ga k i : Int) else 0) (fun i hi => by
    show (if (upd k (308 + q) v (409 + 11 * i)).toInt = s then (ga (upd k (308 + q) v) i : Int) else 0) = _
    rw [upd_n (by omega), ga_congr (k := k) (k' := upd k (308 + q) v) hr hi (upd_n (by omega)) (upd_n (by omega)) (fun j _ _ _ => upd_n (by omega))])]
  by_cases h : s = q
  · subst h
    rw [upd_s, hv, if_pos rfl]
    omega
  · rw [upd_n (by omega), if_neg h]
    omega
theorem rdI_ph (hr : Rs k) (hh : Rh 2000 k) {i : Nat} (hi : i < 10) (hc : 0 < ta k i) {s : Nat} (hs100 : s < 100) : rdI (ph k i) s = rdI k s := by
  have hs := hr.2.2.2 i hi
  have hr' : Rs (pc k i) := (pcs_b hr hi 1 hc).2
  have e := rdI_pc hr hi hc hs100
  unfold ph
  split
  · rename_i ht
    rw [if_pos ht] at e
    have h2 := hh (k (409 + 11 * i)).toInt.toNat (by omega)
    have eh : pc k i (308 + (k (409 + 11 * i)).toInt.toNat) = k (308 + (k (409 + 11 * i)).toInt.toNat) := pc_n (by omega) (by omega) (by omega) (by omega) (by omega)
    rw [rdI_hand (k := pc k i) (d := 1) (by rw [eh, zz_a (by rw [z1]; omega) (by rw [z1]; omega), z1]) hr' (by omega), e]
    by_cases hq : (k (409 + 11 * i)).toInt = s
    · rw [if_pos hq, if_pos (by omega)]; omega
    · rw [if_neg hq, if_neg (by omega)]; omega
  · rename_i ht
    rw [if_neg ht] at e
    rw [e]
    split <;> omega
theorem rdI_pcs (hr : Rs k) {i : Nat} (hi : i < 10) {s : Nat} (hs : s < 100) : ∀ t, t ≤ ta k i → rdI (pcs k i t) s = rdI k s - (if (k (409 + 11 * i)).toInt = s then (cn (tg k i) t : Int) else 0)
  | 0, _ => by
    show rdI k s = rdI k s - (if (k (409 + 11 * i)).toInt = s then ((0 : Nat) : Int) else 0)
    split <;> omega
  | t + 1, ht => by
    have q := rdI_pcs hr hi hs t (by omega)
    obtain ⟨w1, w2⟩ := pcs_t hr hi (n := t) (by omega)
    have w3 := (pcs_b hr hi t (by omega)).2
    have e9 : pcs k i t (409 + 11 * i) = k (409 + 11 * i) := pcs_n (by omega) (by omega) (by omega) (by omega) (by omega) t
    have := rdI_pc w3 hi w1 hs
    rw [w2, e9, q] at this
    show rdI (pc (pcs k i t) i) s = rdI k s - (if (k (409 + 11 * i)).toInt = s then ((cn (tg k i) t + (if tg k i t then 1 else 0) : Nat) : Int) else 0)
    rw [this]
    split
    · split <;> omega
    · omega
/-- just one good one among those cut until the first good one -/
theorem cn_fi {p : Nat → Bool} {m : Nat} (h : ∃ i, i < m ∧ p i = true) : cn p (fi p m + 1) = 1 := by
  obtain ⟨h1, h2, h3⟩ := fi_sp h
  show cn p (fi p m) + (if p (fi p m) then 1 else 0) = 1
  rw [cn_0 h3, if_pos h2]
theorem pB_w (hr : Rs k) (hh : Rh 2000 k) {s : Int32} (h0 : 0 ≤ s.toInt) (h1 : s.toInt ≤ 99) (ha : av k s.toInt.toNat) : (∀ q, q < 100 → rdI (pB k s) q = rdI k q - (if q = s.toInt.toNat then 1 else 0)) ∧ ∀ g, 0 ≤ g → AG g k → GC k → AG (g + 1) (pB k s) ∧ GC (pB k s) := by
  have hhs := hh s.toInt.toNat (by omega)
  unfold pB
  split
  · rename_i hp0
    have ev : (k (308 + s.toInt.toNat) - 1).toInt = (k (308 + s.toInt.toNat)).toInt - 1 := zz_s (by rw [z1]; omega) (by rw [z1]; omega)
    refine ⟨fun q _ => ?_, fun g hg hA hG => ⟨AG_take hA (by omega) ev, GC_congr hG (fun i hi => ⟨upd_n (by omega), upd_n (by omega)⟩)⟩⟩
    rw [rdI_hand (d := -1) (by rw [ev]; omega) hr (by omega)]
    split <;> omega
  · rename_i hp0
    obtain ⟨i1, i2, -⟩ := fi_sp (av_gv h0 ha hp0)
    simp only [gv, decide_eq_true_eq] at i2
    generalize fi (gv k s) 10 = i at *
    have hex := cn_pos.mp i2.2
    obtain ⟨n1, n2, n3⟩ := fi_sp hex
    have hc1 := cn_fi hex
    refine ⟨fun q hq100 => ?_, fun g hg hA hG => ?_⟩
    · rw [rdI_pcs hr i1 hq100 _ n1, hc1, i2.1]
      by_cases hq : q = s.toInt.toNat
      · rw [if_pos (by omega), if_pos hq]; omega
      · rw [if_neg (by omega), if_neg hq]
    · have := AG_pcs hA hg hG hr hh i1 _ n1
      rw [hc1] at this
      exact this
/-- there is a nearest one among finitely many -/
theorem nb_ex (P : Nat → Prop) (w : Int) : ∀ m : Nat, ∃ r : Int, nb (fun s => s < m ∧ P s) w r
  | 0 => ⟨-1, Or.inl ⟨rfl, fun s h => by omega⟩⟩
  | m + 1 => by
    obtain ⟨r, hr⟩ := nb_ex P w m
    by_cases hP : P m
    · rcases hr with ⟨rfl, h⟩ | ⟨s, rfl, hs, hm⟩
      · exact ⟨m, Or.inr ⟨m, rfl, ⟨by omega, hP⟩, fun t ht => by
          by_cases htm : t < m
          · exact absurd ⟨htm, ht.2⟩ (h t)
          · have : t = m := by omega
            subst this
            exact Or.inr ⟨rfl, Int.le_refl _⟩⟩⟩
      · by_cases hle : le3 w s m
        · exact ⟨s, Or.inr ⟨s, rfl, ⟨by omega, hs.2⟩, fun t ht => by
            by_cases htm : t < m
            · exact hm t ⟨htm, ht.2⟩
            · have : t = m := by omega
              subst this
              exact hle⟩⟩
        · exact ⟨m, Or.inr ⟨m, rfl, ⟨by omega, hP⟩, fun t ht => by
            by_cases htm : t < m
            · have := hm t ⟨htm, ht.2⟩
              unfold le3 at *
              omega
            · have : t = m := by omega
              subst this
              exact Or.inr ⟨rfl, Int.le_refl _⟩⟩⟩
    · refine ⟨r, nb_congr hr (fun s => ⟨fun q => ⟨by omega, q.2⟩, fun q => ⟨?_, q.2⟩⟩)⟩
      refine Classical.byContradiction fun hn => hP ?_
      have : s = m := by omega
      subst this
      exact q.2
theorem av_lt (hr : Rs k) {s : Nat} (h : av k s) : s < 100 := by
  rcases h with ⟨q, -⟩ | ⟨i, i1, i2, -⟩
  · exact q
  · have := hr.2.2.2 i i1
    omega
theorem nf_nb (hr : Rs k) (w : Int) : nb (av k) w (nf k w) ∧ -1 ≤ nf k w ∧ nf k w ≤ 99 := by
  obtain ⟨r, h⟩ := nb_ex (av k) w 100
  have h' : nb (av k) w r := nb_congr h (fun s => ⟨fun q => q.2, fun q => ⟨av_lt hr q, q⟩⟩)
  have e : nf k w = r := nf_eq h'
  rw [e]
  refine ⟨h', ?_⟩
  rcases h' with ⟨rfl, -⟩ | ⟨s, rfl, hs, -⟩
  · omega
  · have := av_lt hr hs
    omega
end RY
