/-! what the calls make of a page keeps the ranges and the relation -/
section UP
variable {k m : Nat → Int32} {n : Int} {j : Nat} {v : Int32}
theorem Rp_up (h : Rp k) (hj : j ≠ 0 ∧ j ≠ 1 ∧ j ≠ 4 ∧ j ≠ 5) : Rp (upd k j v) := by
  unfold Rp
  rw [upd_n (by omega), upd_n (by omega), upd_n (by omega), upd_n (by omega)]
  exact h
theorem Rl_up (h : Rl k) (hp : Rp k) (hj : j ≠ 0 ∧ j ≠ 1 ∧ j ≠ 4 ∧ (j < 12 ∨ 308 ≤ j)) : Rl (upd k j v) := by
  unfold Rp at hp
  refine ⟨fun i hi => by rw [upd_n (by omega)]; exact h.1 i hi, fun x y hx hy hn => ?_, fun i hi => by rw [upd_n (by omega)]; exact h.2.2.1 i hi, fun i hi => ?_⟩
  · rw [upd_n (i := j) (j := 0) (by omega), upd_n (i := j) (j := 1) (by omega)] at hn
    rw [upd_n (by omega)]
    exact h.2.1 x y hx hy hn
  · rw [upd_n (i := j) (j := 4) (by omega)] at hi
    rw [upd_n (by omega)]
    exact h.2.2.2 i hi
theorem Rs_up (h : Rs k) (hj : j ≠ 2 ∧ j ≠ 3 ∧ j ≠ 6 ∧ j < 408) : Rs (upd k j v) := Rs_congr h (upd_n (by omega)) (upd_n (by omega)) (upd_n (by omega)) (fun i _ _ => upd_n (by omega))
theorem Rh_up (h : Rh n k) (hj : j < 308 ∨ 408 ≤ j) : Rh n (upd k j v) := fun s hs => by rw [upd_n (by omega)]; exact h s hs
theorem IP_up (h : IP n k) (hj : j = 7 ∨ j = 8 ∨ j = 9 ∨ j = 10 ∨ j = 11) : IP n (upd k j v) := ⟨Rp_up h.1 (by omega), Rl_up h.2.1 h.1 (by omega), Rs_up h.2.2.1 (by omega), Rh_up h.2.2.2 (by omega)⟩
theorem IP_hand (h : IP n k) {s : Nat} (hs : s < 100) (h0 : 0 ≤ v.toInt) (h1 : v.toInt ≤ n + 1) : IP (n + 1) (upd k (308 + s) v) := by
  refine ⟨Rp_up h.1 (by omega), Rl_up h.2.1 h.1 (by omega), Rs_up h.2.2.1 (by omega), fun q hq => ?_⟩
  by_cases hqs : q = s
  · subst hqs; rw [upd_s]; exact ⟨h0, h1⟩
  · rw [upd_n (by omega)]
    have := h.2.2.2 q hq
    omega
theorem hand_1 (h : IP n k) (hn : n ≤ 1000) {s : Nat} (hs : s < 100) : 0 ≤ (k (308 + s) + 1).toInt ∧ (k (308 + s) + 1).toInt ≤ n + 1 := by
  have := h.2.2.2 s hs
  rw [zz_a (by rw [z1]; omega) (by rw [z1]; omega), z1]
  omega
theorem PR_upR (h : PR k m) (hp : Rp k) (hj : (j < 12 ∧ j ≠ 0 ∧ j ≠ 1 ∧ j ≠ 4) ∨ (308 ≤ j ∧ j < 518)) {v' : Int32} (hv : v' = v) : PR (upd k j v) (upd m j v') := by
  subst hv
  exact PR_up h hj _ hp
-- nothing is laid
theorem lc_0 (hl : Rl k) (h : (lc k).toInt ≤ 0) : ∀ j, j < 144 → k (164 + j) = -1 := by
  obtain ⟨c, c1, c2, c3⟩ := su_ind (p := fun j => k (164 + j) = -1) 144
  have e : lc k = nI c := c1
  have ec := zz_nI c (by omega)
  rw [e] at h
  exact c3.mp (by omega)
theorem lc_p (hl : Rl k) (h : ¬ (lc k).toInt ≤ 0) : ∃ j, j < 144 ∧ k (164 + j) ≠ -1 := by
  obtain ⟨c, c1, c2, c3⟩ := su_ind (p := fun j => k (164 + j) = -1) 144
  have e : lc k = nI c := c1
  have ec := zz_nI c (by omega)
  rw [e] at h
  refine Classical.byContradiction fun q => ?_
  have := c3.mpr (fun j hj => Classical.byContradiction fun r => q ⟨j, hj, r⟩)
  omega
-- a floor
theorem PR_begin (R : PR k m) (hI : IP n k) {c r : Int32} (hc : 3 ≤ c.toInt ∧ c.toInt ≤ 12) (hr : 3 ≤ r.toInt ∧ r.toInt ≤ 12) (h0 : ∀ j, j < 144 → k (164 + j) = -1) : PR (pBe k c r) (pBm m c r) ∧ IP n (pBe k c r) := by
  obtain ⟨hp, hl, hs, hh⟩ := hI
  unfold Rp at hp
  have lowk : ∀ j, (j < 20 ∨ 164 ≤ j) → pBe k c r j = upd (upd k 0 c) 1 r j := fun j hj => by unfold pBe; rw [if_neg (by omega)]
  have midk : ∀ j, j < 144 → pBe k c r (20 + j) = 50 := fun j hj => by unfold pBe; rw [if_pos (by omega)]
  have lowm : ∀ j, (j < 20 ∨ 308 ≤ j) → pBm m c r j = upd (upd m 0 c) 1 r j := fun j hj => by unfold pBm; rw [cp2_o _ _ _ (by omega), cp2_o _ _ _ (by omega)]
  have e0 : pBe k c r 0 = c := by rw [lowk 0 (by omega), upd_n (by omega), upd_s]
  have e1 : pBe k c r 1 = r := by rw [lowk 1 (by omega), upd_s]
  have en : ∀ j, (2 ≤ j ∧ j < 20 ∨ 164 ≤ j) → pBe k c r j = k j := fun j hj => by rw [lowk j (by omega), upd_n (by omega), upd_n (by omega)]
  have em : ∀ j, (2 ≤ j ∧ j < 20 ∨ 308 ≤ j) → pBm m c r j = m j := fun j hj => by rw [lowm j (by omega), upd_n (by omega), upd_n (by omega)]
  refine ⟨⟨fun j hj => ?_, fun j h1 h2 => by rw [en j (by omega), em j (by omega), R.hi j h1 h2], fun j hj => ?_, fun x y hx hy => ?_, fun x y hx hy => ?_⟩, ?_, ?_, ?_, ?_⟩
  · rw [lowk j (by omega), lowm j (by omega)]
    unfold upd
    split
    · rfl
    · split
      · rfl
      · exact R.lo j hj
  · rw [en 4 (by omega)] at hj
    rw [en _ (by omega), em _ (by omega), R.pt j hj]
  · rw [e0] at hx ⊢
    rw [e1] at hy
    have q := cx_lt (w := c.toInt.toNat) (h := r.toInt.toNat) (x := x) (y := y) (by omega) (by omega) (by omega) (by omega)
    rw [midk _ (by omega)]
    unfold pBm
    rw [cp2_o _ _ _ (by omega), cp2_i 20 (fun _ => 50) _ q]
  · rw [e0] at hx ⊢
    rw [e1] at hy
    have q := cx_lt (w := c.toInt.toNat) (h := r.toInt.toNat) (x := x) (y := y) (by omega) (by omega) (by omega) (by omega)
    rw [en _ (by omega), h0 _ (by omega)]
    unfold pBm
    rw [cp2_i 164 (fun _ => -1) _ q]
  · unfold Rp
    rw [e0, e1, en 4 (by omega), en 5 (by omega)]
    exact ⟨hc, hr, hp.2.2⟩
  · refine ⟨fun j hj => by rw [en _ (by omega), h0 j hj]; decide, fun x y hx hy _ => by rw [en _ (by omega)]; exact h0 _ (by omega), fun j hj => by rw [midk j hj]; decide, fun j hj => ?_⟩
    rw [en 4 (by omega)] at hj
    rw [en _ (by omega)]
    exact hl.2.2.2 j hj
  · exact Rs_congr hs (en 2 (by omega)) (en 3 (by omega)) (en 6 (by omega)) (fun j h1 h2 => en j (by omega))
  · intro s hs'
    rw [en _ (by omega)]
    exact hh s hs'
-- another way
theorem IP_way (h : IP n k) (h0 : 0 ≤ v.toInt ∧ v.toInt ≤ 2) : IP n (upd k 5 v) := by
  refine ⟨?_, Rl_up h.2.1 h.1 (by omega), Rs_up h.2.2.1 (by omega), Rh_up h.2.2.2 (by omega)⟩
  have hp := h.1
  unfold Rp at hp ⊢
  rw [upd_n (by omega), upd_n (by omega), upd_n (by omega), upd_s]
  exact ⟨hp.1, hp.2.1, hp.2.2.1, h0⟩
-- another loss
theorem IP_loss (h : IP n k) (h0 : 0 ≤ v.toInt ∧ v.toInt ≤ 5) : IP n (upd k 3 v) := by
  refine ⟨Rp_up h.1 (by omega), Rl_up h.2.1 h.1 (by omega), ?_, Rh_up h.2.2.2 (by omega)⟩
  obtain ⟨s2, s3, s6, s⟩ := h.2.2.1
  refine ⟨by rw [upd_n (by omega)]; exact s2, by rw [upd_s]; exact h0, by rw [upd_n (by omega)]; exact s6, fun i hi => ?_⟩
  rw [upd_n (by omega), upd_n (by omega), upd_n (by omega), upd_n (by omega), upd_n (by omega)]
  exact s i hi
-- another size
theorem IP_size (h : IP n k) (hn : 0 ≤ n) (h0 : 5 ≤ v.toInt ∧ v.toInt ≤ 60) : IP n (upd (pTh k) 2 v) := by
  have e : ∀ j, (j < 308 ∨ 408 ≤ j) → j ≠ 11 → pTh k j = k j := fun j hj h11 => by unfold pTh; rw [if_neg (by omega), upd_n h11]
  obtain ⟨hp, hl, ⟨s2, s3, s6, s⟩, hh⟩ := h
  unfold Rp at hp
  refine ⟨?_, ?_, ?_, fun q hq => ?_⟩
  · unfold Rp
    rw [upd_n (by omega), upd_n (by omega), upd_n (by omega), upd_n (by omega), e 0 (by omega) (by omega), e 1 (by omega) (by omega), e 4 (by omega) (by omega), e 5 (by omega) (by omega)]
    exact hp
  · refine ⟨fun i hi => by rw [upd_n (by omega), e _ (by omega) (by omega)]; exact hl.1 i hi, fun x y hx hy hn => ?_, fun i hi => by rw [upd_n (by omega), e _ (by omega) (by omega)]; exact hl.2.2.1 i hi, fun i hi => ?_⟩
    · rw [upd_n (i := 2) (j := 0) (by omega), upd_n (i := 2) (j := 1) (by omega), e 0 (by omega) (by omega), e 1 (by omega) (by omega)] at hn
      rw [upd_n (by omega), e _ (by omega) (by omega)]
      exact hl.2.1 x y hx hy hn
    · rw [upd_n (i := 2) (j := 4) (by omega), e 4 (by omega) (by omega)] at hi
      rw [upd_n (by omega), e _ (by omega) (by omega)]
      exact hl.2.2.2 i hi
  · refine ⟨by rw [upd_s]; exact h0, by rw [upd_n (by omega), e _ (by omega) (by omega)]; exact s3, by rw [upd_n (by omega), e _ (by omega) (by omega)]; exact s6, fun i hi => ?_⟩
    rw [upd_n (by omega), upd_n (by omega), upd_n (by omega), upd_n (by omega), upd_n (by omega), e _ (by omega) (by omega), e _ (by omega) (by omega), e _ (by omega) (by omega), e _ (by omega) (by omega), e _ (by omega) (by omega)]
    exact s i hi
  · rw [upd_n (by omega)]
    unfold pTh
    rw [if_pos (by omega), z0]
    omega
theorem PR_size (R : PR k m) (hp : Rp k) (v : Int32) : PR (upd (pTh k) 2 v) (upd (cp2 308 (fun _ => 0) (upd m 11 (m 11 + m 2 * su (fun s => m (308 + s)) 100)) 100) 2 v) := by
  have es : su (fun s => m (308 + s)) 100 = su (fun s => k (308 + s)) 100 := su_congr (fun s hs => R.hi _ (by omega) (by omega))
  have q := PR_up R (j := 11) (by omega) (k 11 + su (fun s => k (308 + s)) 100 * k 2) hp
  have hp2 : Rp (upd k 11 (k 11 + su (fun s => k (308 + s)) 100 * k 2)) := Rp_up hp (by omega)
  have hpT : Rp (pTh k) := by
    unfold Rp pTh
    rw [if_neg (by omega), if_neg (by omega), if_neg (by omega), if_neg (by omega)]
    exact hp2
  refine PR_up ?_ (by omega) v hpT
  rw [es, R.lo 11 (by omega), R.lo 2 (by omega), Int32.mul_comm (k 2)]
  generalize upd m 11 (k 11 + su (fun s => k (308 + s)) 100 * k 2) = m2 at q
  have hT : pTh k = fun j => if 308 ≤ j ∧ j < 408 then 0 else upd k 11 (k 11 + su (fun s => k (308 + s)) 100 * k 2) j := rfl
  rw [hT]
  generalize upd k 11 (k 11 + su (fun s => k (308 + s)) 100 * k 2) = k2 at q hp2
  unfold Rp at hp2
  have o : ∀ j, j < 308 → (if 308 ≤ j ∧ j < 408 then (0 : Int32) else k2 j) = k2 j := fun j hj => by rw [if_neg (by omega)]
  refine ⟨fun j hj => ?_, fun j h1 h2 => ?_, fun j hj => ?_, fun x y hx hy => ?_, fun x y hx hy => ?_⟩
  · rw [cp2_o _ _ _ (by omega), q.lo j hj]
    exact (o j (by omega)).symm
  · show cp2 308 (fun _ => 0) m2 100 j = if 308 ≤ j ∧ j < 408 then (0 : Int32) else k2 j
    by_cases hj : j < 408
    · rw [if_pos (by omega)]
      unfold cp2
      rw [if_pos (by omega)]
    · rw [if_neg (by omega), cp2_o _ _ _ (by omega), q.hi j h1 h2]
  · simp only [o 4 (by omega)] at hj
    rw [cp2_o _ _ _ (by omega), q.pt j hj]
    exact (o _ (by omega)).symm
  · simp only [o 0 (by omega), o 1 (by omega)] at hx hy ⊢
    have c := cx_lt (w := (k2 0).toInt.toNat) (h := (k2 1).toInt.toNat) (x := x) (y := y) (by omega) (by omega) (by omega) (by omega)
    rw [cp2_o _ _ _ (by omega), q.wt x y hx hy, if_neg (by omega)]
  · simp only [o 0 (by omega), o 1 (by omega)] at hx hy ⊢
    have c := cx_lt (w := (k2 0).toInt.toNat) (h := (k2 1).toInt.toNat) (x := x) (y := y) (by omega) (by omega) (by omega) (by omega)
    rw [cp2_o _ _ _ (by omega), q.ld x y hx hy, if_neg (by omega)]
-- another want
theorem IP_want (h : IP n k) {x y : Nat} (hx : x < 12) (hy : y < 12) (h0 : 0 ≤ v.toInt ∧ v.toInt ≤ 99) : IP n (upd k (20 + (12 * y + x)) v) := by
  obtain ⟨hp, hl, hs, hh⟩ := h
  refine ⟨Rp_up hp (by omega), ?_, Rs_up hs (by omega), Rh_up hh (by omega)⟩
  unfold Rp at hp
  refine ⟨fun i hi => by rw [upd_n (by omega)]; exact hl.1 i hi, fun a b ha hb hn => ?_, fun i hi => ?_, fun i hi => ?_⟩
  · rw [upd_n (i := 20 + (12 * y + x)) (j := 0) (by omega), upd_n (i := 20 + (12 * y + x)) (j := 1) (by omega)] at hn
    rw [upd_n (by omega)]
    exact hl.2.1 a b ha hb hn
  · by_cases hi2 : 20 + i = 20 + (12 * y + x)
    · rw [hi2, upd_s]; exact h0
    · rw [upd_n hi2]; exact hl.2.2.1 i hi
  · rw [upd_n (i := 20 + (12 * y + x)) (j := 4) (by omega)] at hi
    rw [upd_n (by omega)]
    exact hl.2.2.2 i hi
-- a strip
theorem IP_strip (h : IP n k) {i : Nat} (hi : i < 10) (ei : k 6 = nI i) {L s : Int32} (hL : 0 ≤ L.toInt ∧ L.toInt ≤ 1000) (hs : 0 ≤ s.toInt ∧ s.toInt ≤ 99) : IP n (pAs k i L s) := by
  obtain ⟨hp, hl, ⟨s2, s3, s6, ss⟩, hh⟩ := h
  have e6 := zz_nI i (by omega)
  have w : ∀ j, j < 408 → j ≠ 6 → pAs k i L s j = k j := fun j hj h6 => by
    unfold pAs
    rw [upd_n h6, upd_n (by omega), upd_n (by omega), upd_n (by omega), upd_n (by omega), upd_n (by omega)]
  have w6 : pAs k i L s 6 = nI (i + 1) := by unfold pAs; rw [upd_s, ei, nI_1]
  have e7 := zz_nI (i + 1) (by omega)
  unfold Rp at hp
  refine ⟨?_, ?_, ?_, fun q hq => by rw [w _ (by omega) (by omega)]; exact hh q hq⟩
  · unfold Rp
    rw [w 0 (by omega) (by omega), w 1 (by omega) (by omega), w 4 (by omega) (by omega), w 5 (by omega) (by omega)]
    exact hp
  · refine ⟨fun j hj => by rw [w _ (by omega) (by omega)]; exact hl.1 j hj, fun x y hx hy hn => ?_, fun j hj => by rw [w _ (by omega) (by omega)]; exact hl.2.2.1 j hj, fun j hj => ?_⟩
    · rw [w 0 (by omega) (by omega), w 1 (by omega) (by omega)] at hn
      rw [w _ (by omega) (by omega)]
      exact hl.2.1 x y hx hy hn
    · rw [w 4 (by omega) (by omega)] at hj
      rw [w _ (by omega) (by omega)]
      exact hl.2.2.2 j hj
  · refine ⟨by rw [w 2 (by omega) (by omega)]; exact s2, by rw [w 3 (by omega) (by omega)]; exact s3, by rw [w6]; omega, fun q hq => ?_⟩
    rw [w6]
    by_cases hqi : q = i
    · subst hqi
      have a0 : pAs k q L s (408 + 11 * q) = L := by unfold pAs; rw [upd_n (by omega), upd_n (by omega), upd_n (by omega), upd_n (by omega), upd_n (by omega), upd_s]
      have a1 : pAs k q L s (409 + 11 * q) = s := by unfold pAs; rw [upd_n (by omega), upd_n (by omega), upd_n (by omega), upd_n (by omega), upd_s]
      have a2 : pAs k q L s (410 + 11 * q) = 0 := by unfold pAs; rw [upd_n (by omega), upd_n (by omega), upd_n (by omega), upd_s]
      have a3 : pAs k q L s (411 + 11 * q) = 0 := by unfold pAs; rw [upd_n (by omega), upd_n (by omega), upd_s]
      rw [a0, a1, a2, a3, z0]
      omega
    · have o : ∀ j, 408 + 11 * q ≤ j → j < 419 + 11 * q → pAs k i L s j = k j := fun j h1 h2 => by
        unfold pAs
        rw [upd_n (by omega), upd_n (by omega), upd_n (by omega), upd_n (by omega), upd_n (by omega), upd_n (by omega)]
      rw [o _ (by omega) (by omega), o _ (by omega) (by omega), o _ (by omega) (by omega), o _ (by omega) (by omega)]
      have := ss q hq
      rw [ei] at this
      omega
theorem PR_strip (R : PR k m) (hp : Rp k) {i : Nat} (hi : i < 10) (L s : Int32) : PR (pAs k i L s) (pAs m i L s) := by
  unfold pAs
  have a1 := PR_up R (j := 408 + 11 * i) (by omega) L hp
  have p1 : Rp (upd k (408 + 11 * i) L) := Rp_up hp (by omega)
  have a2 := PR_up a1 (j := 409 + 11 * i) (by omega) s p1
  have p2 : Rp (upd (upd k (408 + 11 * i) L) (409 + 11 * i) s) := Rp_up p1 (by omega)
  have a3 := PR_up a2 (j := 410 + 11 * i) (by omega) 0 p2
  have p3 := Rp_up (j := 410 + 11 * i) (v := 0) p2 (by omega)
  have a4 := PR_up a3 (j := 411 + 11 * i) (by omega) 0 p3
  have p4 := Rp_up (j := 411 + 11 * i) (v := 0) p3 (by omega)
  have a5 := PR_up a4 (j := 412 + 11 * i) (by omega) 0 p4
  have p5 := Rp_up (j := 412 + 11 * i) (v := 0) p4 (by omega)
  exact PR_upR a5 p5 (by omega) (by rw [R.lo 6 (by omega)])
-- a flaw
theorem IP_flaw (h : IP n k) {i : Nat} (hi : i < 10) (h0 : 0 ≤ (k (411 + 11 * i)).toInt) (h1 : (k (411 + 11 * i)).toInt < 6) : IP n (pFl k i v) := by
  obtain ⟨hp, hl, ⟨s2, s3, s6, ss⟩, hh⟩ := h
  have w : ∀ j, j < 408 → pFl k i v j = k j := fun j hj => by unfold pFl; rw [upd_n (by omega), upd_n (by omega)]
  have w2 : ∀ j, j ≠ 411 + 11 * i → (∀ t, t < 6 → j ≠ 413 + 11 * i + t) → pFl k i v j = k j := fun j hj ht => by
    unfold pFl
    rw [upd_n hj, upd_n (ht _ (by omega))]
  unfold Rp at hp
  refine ⟨?_, ?_, ?_, fun q hq => by rw [w _ (by omega)]; exact hh q hq⟩
  · unfold Rp
    rw [w 0 (by omega), w 1 (by omega), w 4 (by omega), w 5 (by omega)]
    exact hp
  · refine ⟨fun j hj => by rw [w _ (by omega)]; exact hl.1 j hj, fun x y hx hy hn => ?_, fun j hj => by rw [w _ (by omega)]; exact hl.2.2.1 j hj, fun j hj => ?_⟩
    · rw [w 0 (by omega), w 1 (by omega)] at hn
      rw [w _ (by omega)]
      exact hl.2.1 x y hx hy hn
    · rw [w 4 (by omega)] at hj
      rw [w _ (by omega)]
      exact hl.2.2.2 j hj
  · refine ⟨by rw [w 2 (by omega)]; exact s2, by rw [w 3 (by omega)]; exact s3, by rw [w 6 (by omega)]; exact s6, fun q hq => ?_⟩
    rw [w2 (408 + 11 * q) (by omega) (fun t ht => by omega), w2 (409 + 11 * q) (by omega) (fun t ht => by omega), w2 (410 + 11 * q) (by omega) (fun t ht => by omega), w 6 (by omega)]
    have hq1 := ss q hq
    by_cases hqi : q = i
    · subst hqi
      have : pFl k q v (411 + 11 * q) = k (411 + 11 * q) + 1 := by unfold pFl; rw [upd_s]
      rw [this, zz_a (by rw [z1]; omega) (by rw [z1]; omega), z1]
      exact ⟨hq1.1, hq1.2.1, hq1.2.2.1, by omega, hq1.2.2.2.2⟩
    · rw [w2 (411 + 11 * q) (by omega) (fun t ht => by omega)]
      exact hq1
theorem PR_flaw (R : PR k m) (hp : Rp k) {i : Nat} (hi : i < 10) (h0 : 0 ≤ (k (411 + 11 * i)).toInt) (h1 : (k (411 + 11 * i)).toInt < 6) : PR (pFl k i v) (pFl m i v) := by
  have e : m (411 + 11 * i) = k (411 + 11 * i) := R.hi _ (by omega) (by omega)
  unfold pFl
  rw [e]
  have a1 := PR_up R (j := 413 + 11 * i + (k (411 + 11 * i)).toInt.toNat) (by omega) v hp
  exact PR_up a1 (by omega) _ (Rp_up hp (by omega))
-- a cut
theorem IP_cut (h : IP n k) (hn : n ≤ 1000) {i : Nat} (hi : i < 10) (hc : 0 < ta k i) : IP (n + 1) (ph k i) := by
  have h1 := pcs_b h.2.2.1 hi 1 (by omega)
  have hI : IP n (pc k i) := by
    refine ⟨pcs_Rp h.1 1, ?_, h1.2, fun q hq => ?_⟩
    · have hp := h.1
      unfold Rp at hp
      have w : ∀ j, j < 308 → j ≠ 10 → j ≠ 8 → j ≠ 9 → pc k i j = k j := fun j a b c d => pc_n (by omega) (by omega) b c d
      have hl := h.2.1
      refine ⟨fun j hj => by rw [w _ (by omega) (by omega) (by omega) (by omega)]; exact hl.1 j hj, fun x y hx hy hn => ?_, fun j hj => by rw [w _ (by omega) (by omega) (by omega) (by omega)]; exact hl.2.2.1 j hj, fun j hj => ?_⟩
      · rw [w 0 (by omega) (by omega) (by omega) (by omega), w 1 (by omega) (by omega) (by omega) (by omega)] at hn
        rw [w _ (by omega) (by omega) (by omega) (by omega)]
        exact hl.2.1 x y hx hy hn
      · rw [w 4 (by omega) (by omega) (by omega) (by omega)] at hj
        rw [w _ (by omega) (by omega) (by omega) (by omega)]
        exact hl.2.2.2 j hj
    · rw [pc_n (by omega) (by omega) (by omega) (by omega) (by omega)]
      exact h.2.2.2 q hq
  unfold ph
  split
  · have hs := (h.2.2.1.2.2.2 i hi).2.1
    have hq := hand_1 h hn (s := (k (409 + 11 * i)).toInt.toNat) (by omega)
    exact IP_hand hI (by omega) hq.1 hq.2
  · exact IP_mono hI (by omega)
theorem PR_cut (R : PR k m) (hp : Rp k) (hr : Rs k) {i : Nat} (hi : i < 10) : PR (ph k i) (ph m i) := by
  have hs := (hr.2.2.2 i hi).2.1
  unfold ph
  rw [PR_tg R hr hi, R.hi (409 + 11 * i) (by omega) (by omega), R.hi (308 + (k (409 + 11 * i)).toInt.toNat) (by omega) (by omega)]
  have a := PR_pc R hp hr hi
  split
  · exact PR_up a (by omega) _ (pcs_Rp hp 1)
  · exact a
-- a tessera is lifted
theorem IP_ld (h : IP n k) {x y : Nat} (hx : x < 12) (hy : y < 12) : IP n (upd k (164 + (12 * y + x)) (-1)) := by
  obtain ⟨hp, hl, hs, hh⟩ := h
  refine ⟨Rp_up hp (by omega), ?_, Rs_up hs (by omega), Rh_up hh (by omega)⟩
  unfold Rp at hp
  refine ⟨fun i hi => ?_, fun a b ha hb hn => ?_, fun i hi => by rw [upd_n (by omega)]; exact hl.2.2.1 i hi, fun i hi => ?_⟩
  · by_cases hi2 : 164 + i = 164 + (12 * y + x)
    · rw [hi2, upd_s]; decide
    · rw [upd_n hi2]; exact hl.1 i hi
  · rw [upd_n (i := 164 + (12 * y + x)) (j := 0) (by omega), upd_n (i := 164 + (12 * y + x)) (j := 1) (by omega)] at hn
    by_cases hi2 : 164 + (12 * b + a) = 164 + (12 * y + x)
    · rw [hi2, upd_s]
    · rw [upd_n hi2]; exact hl.2.1 a b ha hb hn
  · rw [upd_n (i := 164 + (12 * y + x)) (j := 4) (by omega)] at hi
    rw [upd_n (by omega)]
    exact hl.2.2.2 i hi
end UP
