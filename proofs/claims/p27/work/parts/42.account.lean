/-! accounts of stone: what is off the strips lies at hand, is laid, broken, sawn or thrown away -/
def aH (k : Nat → Int32) : Int := ti (fun s => (k (308 + s)).toInt) 100
def aL (k : Nat → Int32) : Int := ti (fun j => if k (164 + j) = -1 then 0 else 1) 144
def aR (k : Nat → Int32) : Int := ti (fun i => (k (410 + 11 * i)).toInt) 10
/-- g tesserae are in nobody's hand -/
def AG (g : Int) (k : Nat → Int32) : Prop := aR k = (aH k + aL k + g) * (k 2).toInt + (k 9).toInt + (k 10).toInt + (k 11).toInt ∧ 0 ≤ (k 9).toInt ∧ 0 ≤ (k 10).toInt ∧ 0 ≤ (k 11).toInt
def GC (k : Nat → Int32) : Prop := ∀ i, i < 10 → 0 ≤ (k (412 + 11 * i)).toInt ∧ (k (412 + 11 * i)).toInt ≤ (k (410 + 11 * i)).toInt
section AC
variable {k k' : Nat → Int32} {g n : Int}
theorem aH_n (hh : Rh n k) : 0 ≤ aH k := ti_nn (fun s hs => (hh s hs).1)
theorem aL_n : 0 ≤ aL k := ti_nn (fun j _ => by show (0 : Int) ≤ if k (164 + j) = -1 then 0 else 1; split <;> omega)
theorem aL_b : aL k ≤ 144 := by
  have := ti_bd (f := fun j => if k (164 + j) = -1 then (0 : Int) else 1) (B := 1) (n := 144) (fun j _ => by show (0 : Int) ≤ (if k (164 + j) = -1 then 0 else 1) ∧ (if k (164 + j) = -1 then (0 : Int) else 1) ≤ 1; split <;> omega)
  have h2 := this.2
  show ti _ 144 ≤ 144
  omega
theorem aR_b (hr : Rs k) : 0 ≤ aR k ∧ aR k ≤ 10000 := by
  have := ti_bd (f := fun i => (k (410 + 11 * i)).toInt) (B := 1000) (n := 10) (fun i hi => by
    have := hr.2.2.2 i hi
    show 0 ≤ (k (410 + 11 * i)).toInt ∧ (k (410 + 11 * i)).toInt ≤ 1000
    omega)
  unfold aR
  omega
theorem AG_bd (h : AG g k) (hg : 0 ≤ g) (hr : Rs k) (hh : Rh n k) : 0 ≤ (aH k + aL k + g) * (k 2).toInt ∧ (aH k + aL k + g) * (k 2).toInt ≤ 10000 ∧ (k 9).toInt ≤ 10000 ∧ (k 10).toInt ≤ 10000 ∧ (k 11).toInt ≤ 10000 ∧ 0 ≤ aH k ∧ aH k ≤ 2000 := by
  obtain ⟨h1, h2, h3, h4⟩ := h
  have b1 := aR_b hr
  have b2 := aH_n hh
  have b3 : 0 ≤ aL k := aL_n
  have z5 := hr.1.1
  have e1 : 0 ≤ (aH k + aL k + g) * (k 2).toInt := Int.mul_nonneg (by omega) (by omega)
  have e2 : (aH k + aL k + g) * 5 ≤ (aH k + aL k + g) * (k 2).toInt := Int.mul_le_mul_of_nonneg_left z5 (by omega)
  omega
/-- so the numbers at hand stay small -/
theorem Rh_ag (h : AG g k) (hg : 0 ≤ g) (hr : Rs k) (hh : Rh n k) : Rh 2000 k := by
  have b := (AG_bd h hg hr hh).2.2.2.2.2.2
  intro s hs
  have := ti_mem (f := fun s => (k (308 + s)).toInt) (n := 100) (fun s hs => (hh s hs).1) s hs
  have h0 := hh s hs
  have e : (k (308 + s)).toInt ≤ aH k := this
  omega
theorem AG_congr (h : AG g k) (h2 : k' 2 = k 2) (h9 : k' 9 = k 9) (h10 : k' 10 = k 10) (h11 : k' 11 = k 11) (hL : ∀ j, j < 144 → k' (164 + j) = k (164 + j)) (hH : ∀ s, s < 100 → k' (308 + s) = k (308 + s)) (hR : ∀ i, i < 10 → k' (410 + 11 * i) = k (410 + 11 * i)) : AG g k' := by
  unfold AG aH aL aR
  rw [h2, h9, h10, h11, ti_congr (f := fun s => (k' (308 + s)).toInt) (g := fun s => (k (308 + s)).toInt) (fun s hs => by show (k' (308 + s)).toInt = _; rw [hH s hs]), ti_congr (f := fun j => if k' (164 + j) = -1 then (0 : Int) else 1) (g := fun j => if k (164 + j) = -1 then (0 : Int) else 1) (fun j hj => by show (if k' (164 + j) = -1 then (0 : Int) else 1) = _; rw [hL j hj]), ti_congr (f := fun i => (k' (410 + 11 * i)).toInt) (g := fun i => (k (410 + 11 * i)).toInt) (fun i hi => by show (k' (410 + 11 * i)).toInt = _; rw [hR i hi])]
  exact h
theorem GC_congr (h : GC k) (hR : ∀ i, i < 10 → k' (410 + 11 * i) = k (410 + 11 * i) ∧ k' (412 + 11 * i) = k (412 + 11 * i)) : GC k' := fun i hi => by rw [(hR i hi).1, (hR i hi).2]; exact h i hi
/-- a tessera comes to hand, goes from it -/
theorem AG_hand (h : AG (g + 1) k) {s : Nat} (hs : s < 100) {v : Int32} (hv : v.toInt = (k (308 + s)).toInt + 1) : AG g (upd k (308 + s) v) := by
  unfold AG aL aR at h ⊢
  have e : aH (upd k (308 + s) v) = aH k + 1 := by
    unfold aH
    rw [ti_one (f := fun s => (k (308 + s)).toInt) (i := s) (n := 100) hs (fun j hj hne => by rw [upd_n (by omega)]), upd_s, hv]
    omega
  rw [e, upd_n (by omega), upd_n (by omega), upd_n (by omega), upd_n (by omega), ti_congr (f := fun j => if upd k (308 + s) v (164 + j) = -1 then (0 : Int) else 1) (g := fun j => if k (164 + j) = -1 then (0 : Int) else 1) (fun j hj => by show (if upd k (308 + s) v (164 + j) = -1 then (0 : Int) else 1) = _; rw [upd_n (by omega)]), ti_congr (f := fun i => (upd k (308 + s) v (410 + 11 * i)).toInt) (g := fun i => (k (410 + 11 * i)).toInt) (fun i hi => by show (upd k (308 + s) v (410 + 11 * i)).toInt = _; rw [upd_n (by omega)])]
  rw [show ∀ L : Int, aH k + 1 + L + g = aH k + L + (g + 1) from fun L => by omega]
  exact h
theorem AG_take (h : AG g k) {s : Nat} (hs : s < 100) {v : Int32} (hv : v.toInt = (k (308 + s)).toInt - 1) : AG (g + 1) (upd k (308 + s) v) := by
  unfold AG aL aR at h ⊢
  have e : aH (upd k (308 + s) v) = aH k - 1 := by
    unfold aH
    rw [ti_one (f := fun s => (k (308 + s)).toInt) (i := s) (n := 100) hs (fun j hj hne => by rw [upd_n (by omega)]), upd_s, hv]
    omega
  rw [e, upd_n (by omega), upd_n (by omega), upd_n (by omega), upd_n (by omega), ti_congr (f := fun j => if upd k (308 + s) v (164 + j) = -1 then (0 : Int) else 1) (g := fun j => if k (164 + j) = -1 then (0 : Int) else 1) (fun j hj => by show (if upd k (308 + s) v (164 + j) = -1 then (0 : Int) else 1) = _; rw [upd_n (by omega)]), ti_congr (f := fun i => (upd k (308 + s) v (410 + 11 * i)).toInt) (g := fun i => (k (410 + 11 * i)).toInt) (fun i hi => by show (upd k (308 + s) v (410 + 11 * i)).toInt = _; rw [upd_n (by omega)])]
  rw [show ∀ L : Int, aH k - 1 + L + (g + 1) = aH k + L + g from fun L => by omega]
  exact h
/-- a cell is laid, lifted -/
theorem aL_put {j : Nat} (hj : j < 144) (h : k (164 + j) = -1) {v : Int32} (hv : v ≠ -1) : aL (upd k (164 + j) v) = aL k + 1 := by
  unfold aL
  rw [ti_one (f := fun j => if k (164 + j) = -1 then (0 : Int) else 1) (i := j) (n := 144) hj (fun q hq hne => by rw [upd_n (by omega)]), upd_s, if_neg hv, if_pos h]
  omega
theorem aL_lift {j : Nat} (hj : j < 144) (h : k (164 + j) ≠ -1) : aL (upd k (164 + j) (-1)) = aL k - 1 := by
  unfold aL
  rw [ti_one (f := fun j => if k (164 + j) = -1 then (0 : Int) else 1) (i := j) (n := 144) hj (fun q hq hne => by rw [upd_n (by omega)]), upd_s, if_pos rfl, if_neg h]
  omega
theorem AG_laid (h : AG g k) {j : Nat} {v : Int32} {d : Int} (e : aL (upd k (164 + j) v) = aL k + d) (hj : j < 144) {g' : Int} (hg' : g' = g - d) : AG g' (upd k (164 + j) v) := by
  subst hg'
  unfold AG aH aR at h ⊢
  rw [e, upd_n (by omega), upd_n (by omega), upd_n (by omega), upd_n (by omega), ti_congr (f := fun s => (upd k (164 + j) v (308 + s)).toInt) (g := fun s => (k (308 + s)).toInt) (fun s hs => by show (upd k (164 + j) v (308 + s)).toInt = _; rw [upd_n (by omega)]), ti_congr (f := fun i => (upd k (164 + j) v (410 + 11 * i)).toInt) (g := fun i => (k (410 + 11 * i)).toInt) (fun i hi => by show (upd k (164 + j) v (410 + 11 * i)).toInt = _; rw [upd_n (by omega)])]
  rw [show ∀ H : Int, H + (aL k + d) + (g - d) = H + aL k + g from fun H => by omega]
  exact h
theorem lc_i : (lc k).toInt = aL k := by
  unfold lc aL
  rw [su_ti (B := 1) (fun j _ => by show 0 ≤ (if k (164 + j) = -1 then (0 : Int32) else 1).toInt ∧ (if k (164 + j) = -1 then (0 : Int32) else 1).toInt ≤ ((1 : Nat) : Int); split <;> decide) (by omega)]
  exact ti_congr (fun j _ => by show (if k (164 + j) = -1 then (0 : Int32) else 1).toInt = _; split <;> rfl)
/-- what one cut makes of a strip -/
theorem pc_v (hr : Rs k) {i : Nat} (hi : i < 10) (hc : 0 < ta k i) (h9 : 0 ≤ (k 9).toInt ∧ (k 9).toInt ≤ 10000) (h10 : 0 ≤ (k 10).toInt ∧ (k 10).toInt ≤ 10000) :
    (pc k i (410 + 11 * i)).toInt = min ((k (410 + 11 * i)).toInt + ((k 2).toInt + (k 3).toInt)) (k (408 + 11 * i)).toInt ∧ (pc k i 10).toInt = (k 10).toInt + ((pc k i (410 + 11 * i)).toInt - (k (410 + 11 * i)).toInt - (k 2).toInt) ∧
    (k (410 + 11 * i)).toInt + (k 2).toInt ≤ (k (408 + 11 * i)).toInt ∧ (pc k i 9).toInt = (k 9).toInt + (if tg k i 0 then 0 else (k 2).toInt) ∧ pc k i (412 + 11 * i) = (if tg k i 0 then k (412 + 11 * i) + 1 else k (412 + 11 * i)) ∧ Rs (pc k i) := by
  have hs := hr.2.2.2 i hi
  have e1 : (pcs k i 1 (410 + 11 * i)).toInt = min (tp k i 1) (k (408 + 11 * i)).toInt ∧ Rs (pcs k i 1) := pcs_b hr hi 1 hc
  have e2 : tp k i 1 = (k (410 + 11 * i)).toInt + ((k 2).toInt + (k 3).toInt) := by unfold tp; omega
  have e3 := (ta_iff hr (i := i) 0).mp hc
  have e0 : tp k i 0 = (k (410 + 11 * i)).toInt := by unfold tp; simp
  rw [e0] at e3
  rw [e2] at e1
  have e4 : (pc k i (410 + 11 * i)).toInt = min ((k (410 + 11 * i)).toInt + ((k 2).toInt + (k 3).toInt)) (k (408 + 11 * i)).toInt := e1.1
  have eb : pc k i (410 + 11 * i) = ps' k i := pc_b
  have r1 := hr.1
  have r2 := hr.2.1
  rw [eb] at e4
  have d1 : (k (408 + 11 * i) - k (410 + 11 * i)).toInt = (k (408 + 11 * i)).toInt - (k (410 + 11 * i)).toInt := zz_s (by omega) (by omega)
  have d2 : (k (408 + 11 * i) - k (410 + 11 * i) - k 2).toInt = (k (408 + 11 * i)).toInt - (k (410 + 11 * i)).toInt - (k 2).toInt := by rw [zz_s (by omega) (by omega), d1]
  have d3 : (k (408 + 11 * i) - ps' k i).toInt = (k (408 + 11 * i)).toInt - (ps' k i).toInt := zz_s (by omega) (by omega)
  have d4 : (k (408 + 11 * i) - k (410 + 11 * i) - k 2 - (k (408 + 11 * i) - ps' k i)).toInt = (ps' k i).toInt - (k (410 + 11 * i)).toInt - (k 2).toInt := by rw [zz_s (by omega) (by omega), d2, d3]; omega
  have d5 : (k 10 + (k (408 + 11 * i) - k (410 + 11 * i) - k 2 - (k (408 + 11 * i) - ps' k i))).toInt = (k 10).toInt + ((ps' k i).toInt - (k (410 + 11 * i)).toInt - (k 2).toInt) := by rw [zz_a (by omega) (by omega), d4]
  rw [eb]
  refine ⟨e4, ?_, e3, ?_, ?_, e1.2⟩
  · unfold pc
    split
    · rw [upd_s]; exact d5
    · rw [upd_n (by omega), upd_n (by omega), upd_s]; exact d5
  · unfold pc
    split
    · rw [upd_n (by omega), upd_n (by omega), upd_n (by omega)]; omega
    · rw [upd_s, zz_a (by omega) (by omega)]
  · unfold pc
    split
    · rw [upd_n (by omega), upd_s]
    · rw [upd_n (by omega), upd_n (by omega), upd_n (by omega), upd_n (by omega)]
theorem AG_pc (h : AG g k) (hg : 0 ≤ g) (hG : GC k) (hr : Rs k) (hh : Rh n k) {i : Nat} (hi : i < 10) (hc : 0 < ta k i) : AG (g + (if tg k i 0 then 1 else 0)) (pc k i) ∧ GC (pc k i) := by
  obtain ⟨b1, b2, b9, b10, b11, -⟩ := AG_bd h hg hr hh
  obtain ⟨h1, h2, h3, h4⟩ := h
  obtain ⟨v1, v2, v3, v4, v5, v6⟩ := pc_v hr hi hc ⟨h2, b9⟩ ⟨h3, b10⟩
  have hs := hr.2.2.2 i hi
  have r1 := hr.1
  have r2 := hr.2.1
  have hGi := hG i hi
  refine ⟨⟨?_, ?_, ?_, ?_⟩, fun q hq => ?_⟩
  · have e1 : aR (pc k i) = aR k + ((pc k i (410 + 11 * i)).toInt - (k (410 + 11 * i)).toInt) := by
      unfold aR
      exact ti_one (f := fun i => (k (410 + 11 * i)).toInt) (i := i) (n := 10) hi (fun j hj hne => by show (pc k i (410 + 11 * j)).toInt = _; rw [pc_n (by omega) (by omega) (by omega) (by omega) (by omega)])
    have e2 : aH (pc k i) = aH k := ti_congr (fun s hs => by show (pc k i (308 + s)).toInt = _; rw [pc_n (by omega) (by omega) (by omega) (by omega) (by omega)])
    have e3 : aL (pc k i) = aL k := ti_congr (fun j hj => by show (if pc k i (164 + j) = -1 then (0 : Int) else 1) = _; rw [pc_n (by omega) (by omega) (by omega) (by omega) (by omega)])
    rw [e1, e2, e3, v2, v4, pc_n (j := 2) (by omega) (by omega) (by omega) (by omega) (by omega), pc_n (j := 11) (by omega) (by omega) (by omega) (by omega) (by omega), h1]
    split
    · have e := Int.add_mul (aH k + aL k + g) 1 (k 2).toInt
      rw [Int.one_mul] at e
      rw [show aH k + aL k + (g + 1) = aH k + aL k + g + 1 by omega, e]
      omega
    · rw [Int.add_zero]
      omega
  · rw [v4]; split <;> omega
  · rw [v2, v1]; omega
  · rw [pc_n (by omega) (by omega) (by omega) (by omega) (by omega)]; exact h4
  · by_cases hqi : q = i
    · subst hqi
      rw [v5]
      split
      · rw [zz_a (by rw [z1]; omega) (by rw [z1]; omega), z1]; omega
      · omega
    · rw [pc_n (by omega) (by omega) (by omega) (by omega) (by omega), pc_n (by omega) (by omega) (by omega) (by omega) (by omega)]
      exact hG q hq
theorem pcs_h {i : Nat} (hh : Rh n k) (t : Nat) : Rh n (pcs k i t) := fun s hs => by rw [pcs_n (by omega) (by omega) (by omega) (by omega) (by omega)]; exact hh s hs
theorem AG_pcs (h : AG g k) (hg : 0 ≤ g) (hG : GC k) (hr : Rs k) (hh : Rh n k) {i : Nat} (hi : i < 10) : ∀ t, t ≤ ta k i → AG (g + cn (tg k i) t) (pcs k i t) ∧ GC (pcs k i t)
  | 0, _ => by
    show AG (g + ((0 : Nat) : Int)) k ∧ GC k
    rw [show g + ((0 : Nat) : Int) = g by omega]
    exact ⟨h, hG⟩
  | t + 1, ht => by
    obtain ⟨q1, q2⟩ := AG_pcs h hg hG hr hh hi t (by omega)
    obtain ⟨w1, w2⟩ := pcs_t hr hi (n := t) (by omega)
    have w3 := (pcs_b hr hi t (by omega)).2
    have := AG_pc q1 (by omega) q2 w3 (pcs_h hh t) hi w1
    rw [w2] at this
    show AG (g + ((cn (tg k i) t + (if tg k i t then 1 else 0) : Nat) : Int)) (pc (pcs k i t) i) ∧ GC (pc (pcs k i t) i)
    have e : g + ((cn (tg k i) t + (if tg k i t then 1 else 0) : Nat) : Int) = g + (cn (tg k i) t : Int) + (if tg k i t then 1 else 0) := by split <;> omega
    rw [e]
    exact this
end AC
