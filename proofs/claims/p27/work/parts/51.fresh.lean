/-! a new strip; what lacks -/
section FS
variable {n N : Int} {b u tl : Nat} {M : mm_M} {k k' tx : Nat → Int32} {pg : Nat → Nat → Int32}
theorem pAs_n {i : Nat} {L s : Int32} {j : Nat} (h6 : j ≠ 6) (hj : j < 408 + 11 * i ∨ 412 + 11 * i < j) : pAs k i L s j = k j := by
  unfold pAs
  rw [upd_n h6, upd_n (by omega), upd_n (by omega), upd_n (by omega), upd_n (by omega), upd_n (by omega)]
theorem pAs_v {i : Nat} {L s : Int32} : pAs k i L s (408 + 11 * i) = L ∧ pAs k i L s (409 + 11 * i) = s ∧ pAs k i L s (410 + 11 * i) = 0 ∧ pAs k i L s (411 + 11 * i) = 0 ∧ pAs k i L s 6 = k 6 + 1 := by
  unfold pAs
  refine ⟨?_, ?_, ?_, ?_, upd_s⟩
  · rw [upd_n (by omega), upd_n (by omega), upd_n (by omega), upd_n (by omega), upd_n (by omega), upd_s]
  · rw [upd_n (by omega), upd_n (by omega), upd_n (by omega), upd_n (by omega), upd_s]
  · rw [upd_n (by omega), upd_n (by omega), upd_n (by omega), upd_s]
  · rw [upd_n (by omega), upd_n (by omega), upd_s]
/-- without flaws all are good -/
theorem ga_ta {i : Nat} (h : k (411 + 11 * i) = 0) : ga k i = ta k i ∧ ∀ a c, hf k i a c = false := by
  have hh : ∀ a c, hf k i a c = false := by
    intro a c
    unfold hf
    rw [h, show (0 : Int32).toInt.toNat = 0 from rfl]
    rfl
  refine ⟨cn_all (fun t _ => ?_), hh⟩
  unfold tg
  rw [hh]
  rfl
theorem rdI_pAs (hr : Rs k) {i : Nat} (hi : i < 10) (ei : k 6 = nI i) {L s : Int32} (hs : 0 ≤ s.toInt ∧ s.toInt ≤ 99) : rdI (pAs k i L s) s.toInt.toNat = rdI k s.toInt.toNat + ga (pAs k i L s) i := by
  have hz : ga k i = 0 := by
    have h1 := hr.2.2.2 i hi
    have h2 := h1.2.2.2.2 (by rw [ei, zz_nI i (by omega)]; exact Int.le_refl _)
    have r2 := hr.1
    have h3 : ta k i = 0 := by
      unfold ta
      rw [if_pos (by omega)]
    unfold ga
    rw [h3]
    rfl
  have v := pAs_v (k := k) (i := i) (L := L) (s := s)
  unfold rdI
  rw [pAs_n (by omega) (by omega), ti_one (f := fun i => if (k (409 + 11 * i)).toInt = (s.toInt.toNat : Int) then (ga k i : Int) else 0) (i := i) (n := 10) hi (fun j hj hne => by
    show (if (pAs k i L s (409 + 11 * j)).toInt = (s.toInt.toNat : Int) then (ga (pAs k i L s) j : Int) else 0) = if (k (409 + 11 * j)).toInt = (s.toInt.toNat : Int) then (ga k j : Int) else 0
    rw [pAs_n (by omega) (by omega), ga_congr hr hj (pAs_n (by omega) (by omega)) (pAs_n (by omega) (by omega)) (fun q h1 h2 h3 => pAs_n (by omega) (by omega))])]
  rw [v.2.1, if_pos (by omega), hz]
  split <;> omega
/-- what cells want, what is laid: not of strips, nor of tesserae at hand -/
theorem bw_congr (hp : Rp k) (hk : ∀ j, j < 20 → j ≠ 6 → k' j = k j) {m : Int} (h0 : 0 ≤ m) (h1 : m < 2 * ((k 0).toInt + (k 1).toInt - 2)) : bw k' m = bw k m := by
  have hp' := hp
  unfold Rp at hp'
  have r := sI_r (w := (k 0).toInt) (h := (k 1).toInt) (l := (k 4).toInt) (y := (k 5).toInt) (by omega) (by omega) (by omega) h0 h1
  unfold bw
  rw [hk 0 (by omega) (by omega), hk 1 (by omega) (by omega), hk 4 (by omega) (by omega), hk 5 (by omega) (by omega)]
  exact hk _ (by omega) (by omega)
theorem wn_congr (hp : Rp k) (hk : ∀ j, j < 164 → j ≠ 6 → k' j = k j) {x y : Int32} (hi : ins k x y) : wn k' x y = wn k x y := by
  have hp' := hp
  unfold Rp at hp'
  unfold ins at hi
  unfold wn
  rw [hk 0 (by omega) (by omega), hk 1 (by omega) (by omega)]
  split
  · have b1 := bn_r (w := (k 0).toInt) (h := (k 1).toInt) (x := x.toInt) (y := y.toInt) (by omega) (by omega) (by omega) (by omega) (by omega) (by omega)
    have b2 := bn_r2 (w := (k 0).toInt) (h := (k 1).toInt) (x := x.toInt) (y := y.toInt) (by omega) (by omega) (by omega) (by omega) (by omega) (by omega)
    exact bw_congr hp (fun j h1 h2 => hk j (by omega) h2) b1.1 b2
  · exact hk _ (by omega) (by omega)
theorem wt_congr (hp : Rp k) (hk : ∀ j, j < 308 → j ≠ 6 → k' j = k j) (s : Int32) : wt k' s = wt k s := by
  have hp' := hp
  unfold Rp at hp'
  obtain ⟨w, ew, -⟩ := nat_of (a := k 0) (by omega)
  obtain ⟨h, eh, -⟩ := nat_of (a := k 1) (by omega)
  unfold wt
  rw [hk 0 (by omega) (by omega), hk 1 (by omega) (by omega), ew, eh, Int.toNat_natCast, Int.toNat_natCast]
  refine su_congr (fun y hy => su_congr (fun x hx => ?_))
  have hi := ins_n ew eh hx hy hp
  rw [wn_congr hp (fun j h1 h2 => hk j (by omega) h2) hi, lx_nn k' (by omega) (by omega), lx_nn k (by omega) (by omega), hk _ (by omega) (by omega)]
theorem wt_b (hp : Rp k) (s : Int32) : 0 ≤ (wt k s).toInt ∧ (wt k s).toInt ≤ 144 := by
  have hp' := hp
  unfold Rp at hp'
  obtain ⟨w, ew, -⟩ := nat_of (a := k 0) (by omega)
  obtain ⟨h, eh, -⟩ := nat_of (a := k 1) (by omega)
  unfold wt
  rw [ew, eh, Int.toNat_natCast, Int.toNat_natCast]
  have in1 : ∀ y : Nat, 0 ≤ (su (fun x => if lx k (nI x) (nI y) = -1 ∧ wn k (nI x) (nI y) = s then (1 : Int32) else 0) w).toInt ∧ (su (fun x => if lx k (nI x) (nI y) = -1 ∧ wn k (nI x) (nI y) = s then (1 : Int32) else 0) w).toInt ≤ ((12 : Nat) : Int) := by
    intro y
    have hb : ∀ x, x < w → 0 ≤ (if lx k (nI x) (nI y) = -1 ∧ wn k (nI x) (nI y) = s then (1 : Int32) else 0).toInt ∧ (if lx k (nI x) (nI y) = -1 ∧ wn k (nI x) (nI y) = s then (1 : Int32) else 0).toInt ≤ ((1 : Nat) : Int) := fun x _ => by split <;> decide
    rw [su_ti (B := 1) hb (by omega)]
    have := ti_bd (f := fun x => (if lx k (nI x) (nI y) = -1 ∧ wn k (nI x) (nI y) = s then (1 : Int32) else 0).toInt) (B := 1) (n := w) hb
    omega
  rw [su_ti (B := 12) (fun y _ => in1 y) (by omega)]
  have := ti_bd (f := fun y => (su (fun x => if lx k (nI x) (nI y) = -1 ∧ wn k (nI x) (nI y) = s then (1 : Int32) else 0) w).toInt) (B := 12) (n := h) (fun y _ => in1 y)
  omega
theorem lk_i (hI : IP 2000 k) {x : Int32} (hx : 0 ≤ x.toInt ∧ x.toInt ≤ 99) : (lk k x).toInt = max ((wt k x).toInt - rdI k x.toInt.toNat) 0 := by
  have h1 := wt_b hI.1 x
  have h2 := rdI_i hI.2.2.1 hI.2.2.2 hx
  have h3 := rdI_b hI.2.2.1 hI.2.2.2 (s := x.toInt.toNat) (by omega)
  have h4 := hI.2.2.2 x.toInt.toNat (by omega)
  have h5 : rdI k x.toInt.toNat ≤ 4000 := by
    have := h3.2.1
    unfold rdI at *
    omega
  unfold lk
  rw [zz_mx, zz_s (by rw [h2]; omega) (by rw [h2]; omega), h2, z0]
/-- a strip of the length that is told is long enough -/
theorem lk_strip (hI : IP 2000 k) {i : Nat} (hi : i < 10) (ei : k 6 = nI i) {s L : Int32} (hs : 0 ≤ s.toInt ∧ s.toInt ≤ 99) (h0 : 0 < (lk k s).toInt) (hL : (lk k s).toInt * (k 2).toInt + ((lk k s).toInt - 1) * (k 3).toInt ≤ L.toInt) (hI' : IP 2000 (pAs k i L s)) : lk (pAs k i L s) s = 0 := by
  have h1 := lk_i hI hs
  have h2 := lk_i hI' hs
  have h3 := rdI_pAs hI.2.2.1 hi ei (L := L) hs
  rw [wt_congr hI.1 (fun j a c => pAs_n c (by omega)), h3] at h2
  have v := pAs_v (k := k) (i := i) (L := L) (s := s)
  have h4 := (ga_ta v.2.2.2.1).1
  obtain ⟨m, em⟩ : ∃ m : Nat, (lk k s).toInt = m + 1 := ⟨(lk k s).toInt.toNat - 1, by omega⟩
  have h5 : m < ta (pAs k i L s) i := by
    rw [ta_iff hI'.2.2.1]
    unfold tp
    rw [v.1, v.2.2.1, pAs_n (by omega) (by omega), pAs_n (by omega) (by omega), z0]
    rw [em, show (m : Int) + 1 - 1 = m by omega, Int.add_mul, Int.one_mul] at hL
    rw [Int.mul_add]
    omega
  rw [zz_e, h2, z0]
  omega
end FS
