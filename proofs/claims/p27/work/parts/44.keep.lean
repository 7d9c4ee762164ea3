/-! what holds of every page, and is kept by every change -/
def JP (N : Int) (k : Nat → Int32) : Prop := IP 2000 k ∧ ((k 0).toInt ≤ 7 ∧ (k 1).toInt ≤ 7) ∧ AG 0 k ∧ GC k ∧ (0 ≤ (k 7).toInt ∧ (k 7).toInt ≤ N)
section JK
variable {k k' q : Nat → Int32} {g n N : Int}
theorem JP_mono {N' : Int} (h : JP N k) (hn : N ≤ N') : JP N' k := ⟨h.1, h.2.1, h.2.2.1, h.2.2.2.1, by have := h.2.2.2.2; omega⟩
theorem IP_ag (hp : Rp k) (hl : Rl k) (hr : Rs k) (hh : Rh n k) (hA : AG 0 k) : IP 2000 k := ⟨hp, hl, hr, Rh_ag hA (Int.le_refl 0) hr hh⟩
theorem AG_break (h : AG (g + 1) k) (hr : Rs k) (h9 : (k 9).toInt ≤ 10000) : AG g (upd k 9 (k 9 + k 2)) := by
  obtain ⟨h1, h2, h3, h4⟩ := h
  have r1 := hr.1
  have e9 : (k 9 + k 2).toInt = (k 9).toInt + (k 2).toInt := zz_a (by omega) (by omega)
  have eH : aH (upd k 9 (k 9 + k 2)) = aH k := ti_congr (fun s hs => by show (upd k 9 (k 9 + k 2) (308 + s)).toInt = _; rw [upd_n (by omega)])
  have eL : aL (upd k 9 (k 9 + k 2)) = aL k := ti_congr (fun j hj => by show (if upd k 9 (k 9 + k 2) (164 + j) = -1 then (0 : Int) else 1) = _; rw [upd_n (by omega)])
  have eR : aR (upd k 9 (k 9 + k 2)) = aR k := ti_congr (fun i hi => by show (upd k 9 (k 9 + k 2) (410 + 11 * i)).toInt = _; rw [upd_n (by omega)])
  refine ⟨?_, ?_, ?_, ?_⟩
  · have e := Int.add_mul (aH k + aL k + g) 1 (k 2).toInt
    rw [Int.one_mul] at e
    rw [eH, eL, eR, upd_s, e9, upd_n (by omega), upd_n (by omega), upd_n (by omega), h1, show aH k + aL k + (g + 1) = aH k + aL k + g + 1 by omega, e]
    omega
  · rw [upd_s, e9]; omega
  · rw [upd_n (by omega)]; exact h3
  · rw [upd_n (by omega)]; exact h4
theorem IP_0 : IP 2000 k0 := by
  have e4 : k0 4 = 1 := rfl
  refine ⟨?_, ?_, ?_, ?_⟩
  · unfold Rp
    decide
  · refine ⟨fun j hj => by rw [k0_l hj]; decide, fun x y hx hy _ => k0_l (by omega), fun j hj => by rw [k0_w hj]; decide, fun j hj => ?_⟩
    rw [e4, z1] at hj
    rw [k0_z (by omega)]
    decide
  · refine ⟨by decide, by decide, by decide, fun i hi => ?_⟩
    rw [k0_z (by omega), k0_z (by omega), k0_z (by omega), k0_z (by omega)]
    refine ⟨by decide, by decide, by decide, by decide, fun _ => rfl⟩
  · intro s hs
    rw [k0_z (by omega)]
    decide
theorem JP_0 : JP 0 k0 := by
  have e2 : (k0 2).toInt = 20 := rfl
  have e9 : (k0 9).toInt = 0 := rfl
  have e10 : (k0 10).toInt = 0 := rfl
  have e11 : (k0 11).toInt = 0 := rfl
  refine ⟨IP_0, by decide, ⟨?_, by decide, by decide, by decide⟩, fun i hi => ?_, by decide⟩
  · have hR : aR k0 = 0 := ti_zero (fun i hi => by show (k0 (410 + 11 * i)).toInt = 0; rw [k0_z (by omega)]; rfl)
    have hH : aH k0 = 0 := ti_zero (fun s hs => by show (k0 (308 + s)).toInt = 0; rw [k0_z (by omega)]; rfl)
    have hL : aL k0 = 0 := ti_zero (fun j hj => by show (if k0 (164 + j) = -1 then (0 : Int) else 1) = 0; rw [k0_l hj, if_pos rfl])
    rw [hR, hH, hL, e2, e9, e10, e11]
    rfl
  · rw [k0_z (by omega), k0_z (by omega)]
    decide
theorem JP_begin (h : JP N k) {c r : Int32} (hc : 3 ≤ c.toInt ∧ c.toInt ≤ 7) (hr : 3 ≤ r.toInt ∧ r.toInt ≤ 7) (h0 : ∀ j, j < 144 → k (164 + j) = -1) : JP N (pBe k c r) := by
  obtain ⟨⟨hp, hl, hs, hh⟩, -, hA, hG, h7⟩ := h
  unfold Rp at hp
  have lowk : ∀ j, (j < 20 ∨ 164 ≤ j) → pBe k c r j = upd (upd k 0 c) 1 r j := fun j hj => by unfold pBe; rw [if_neg (by omega)]
  have midk : ∀ j, j < 144 → pBe k c r (20 + j) = 50 := fun j hj => by unfold pBe; rw [if_pos (by omega)]
  have e0 : pBe k c r 0 = c := by rw [lowk 0 (by omega), upd_n (by omega), upd_s]
  have e1 : pBe k c r 1 = r := by rw [lowk 1 (by omega), upd_s]
  have en : ∀ j, (2 ≤ j ∧ j < 20 ∨ 164 ≤ j) → pBe k c r j = k j := fun j hj => by rw [lowk j (by omega), upd_n (by omega), upd_n (by omega)]
  refine ⟨⟨?_, ?_, ?_, ?_⟩, by rw [e0, e1]; omega, AG_congr hA (en _ (by omega)) (en _ (by omega)) (en _ (by omega)) (en _ (by omega)) (fun j hj => en _ (by omega)) (fun j hj => en _ (by omega)) (fun j hj => en _ (by omega)), GC_congr hG (fun i hi => ⟨en _ (by omega), en _ (by omega)⟩), by rw [en 7 (by omega)]; exact h7⟩
  · unfold Rp
    rw [e0, e1, en 4 (by omega), en 5 (by omega)]
    exact ⟨by omega, by omega, hp.2.2⟩
  · refine ⟨fun j hj => by rw [en _ (by omega), h0 j hj]; decide, fun x y hx hy _ => by rw [en _ (by omega)]; exact h0 _ (by omega), fun j hj => by rw [midk j hj]; decide, fun j hj => ?_⟩
    rw [en 4 (by omega)] at hj
    rw [en _ (by omega)]
    exact hl.2.2.2 j hj
  · exact Rs_congr hs (en 2 (by omega)) (en 3 (by omega)) (en 6 (by omega)) (fun j h1 h2 => en j (by omega))
  · intro s hs'
    rw [en _ (by omega)]
    exact hh s hs'
theorem JP_up {j : Nat} {v : Int32} (h : JP N k) (hI : IP 2000 (upd k j v)) (hj : j = 3 ∨ j = 5 ∨ (20 ≤ j ∧ j < 164)) : JP N (upd k j v) :=
  ⟨hI, by rw [upd_n (by omega), upd_n (by omega)]; exact h.2.1, AG_congr h.2.2.1 (upd_n (by omega)) (upd_n (by omega)) (upd_n (by omega)) (upd_n (by omega)) (fun j hj => upd_n (by omega)) (fun j hj => upd_n (by omega)) (fun j hj => upd_n (by omega)), GC_congr h.2.2.2.1 (fun i hi => ⟨upd_n (by omega), upd_n (by omega)⟩), by rw [upd_n (by omega)]; exact h.2.2.2.2⟩
theorem JP_way {v : Int32} (h : JP N k) (h0 : 0 ≤ v.toInt ∧ v.toInt ≤ 2) : JP N (upd k 5 v) := JP_up h (IP_way h.1 h0) (by omega)
theorem JP_loss {v : Int32} (h : JP N k) (h0 : 0 ≤ v.toInt ∧ v.toInt ≤ 5) : JP N (upd k 3 v) := JP_up h (IP_loss h.1 h0) (by omega)
theorem JP_want {v : Int32} (h : JP N k) {x y : Nat} (hx : x < 12) (hy : y < 12) (h0 : 0 ≤ v.toInt ∧ v.toInt ≤ 99) : JP N (upd k (20 + (12 * y + x)) v) := JP_up h (IP_want h.1 hx hy h0) (by omega)
theorem aH_i (hh : Rh 2000 k) : (su (fun s => k (308 + s)) 100).toInt = aH k := su_ti (B := 2000) (fun s hs => hh s hs) (by omega)
theorem JP_size {v : Int32} (h : JP N k) (h0 : 5 ≤ v.toInt ∧ v.toInt ≤ 60) (hl : ∀ j, j < 144 → k (164 + j) = -1) : JP N (upd (pTh k) 2 v) := by
  obtain ⟨hI, hd, hA, hG, h7⟩ := h
  have e : ∀ j, (j < 308 ∨ 408 ≤ j) → j ≠ 11 → j ≠ 2 → upd (pTh k) 2 v j = k j := fun j hj h11 h2 => by rw [upd_n h2]; unfold pTh; rw [if_neg (by omega), upd_n h11]
  have b := AG_bd hA (Int.le_refl 0) hI.2.2.1 hI.2.2.2
  have eh := aH_i hI.2.2.2
  have r1 := hI.2.2.1.1
  have hL : aL k = 0 := ti_zero (fun j hj => by show (if k (164 + j) = -1 then (0 : Int) else 1) = 0; rw [hl j hj, if_pos rfl])
  obtain ⟨a1, a2, a3, a4⟩ := hA
  rw [hL, show aH k + 0 + 0 = aH k by omega] at a1 b
  have em : (su (fun s => k (308 + s)) 100 * k 2).toInt = aH k * (k 2).toInt := by rw [zz_m (by rw [eh]; omega) (by rw [eh]; omega), eh]
  have e11 : (upd (pTh k) 2 v 11).toInt = (k 11).toInt + aH k * (k 2).toInt := by
    rw [upd_n (by omega)]
    unfold pTh
    rw [if_neg (by omega), upd_s, zz_a (by omega) (by omega), em]
  have eH : aH (upd (pTh k) 2 v) = 0 := ti_zero (fun s hs => by
    show (upd (pTh k) 2 v (308 + s)).toInt = 0
    rw [upd_n (by omega)]
    unfold pTh
    rw [if_pos (by omega)]
    rfl)
  have eL : aL (upd (pTh k) 2 v) = 0 := ti_zero (fun j hj => by show (if upd (pTh k) 2 v (164 + j) = -1 then (0 : Int) else 1) = 0; rw [e _ (by omega) (by omega) (by omega), hl j hj, if_pos rfl])
  have eR : aR (upd (pTh k) 2 v) = aR k := ti_congr (fun i hi => by show (upd (pTh k) 2 v (410 + 11 * i)).toInt = _; rw [e _ (by omega) (by omega) (by omega)])
  refine ⟨IP_size hI (by omega) h0, by rw [e 0 (by omega) (by omega) (by omega), e 1 (by omega) (by omega) (by omega)]; exact hd, ⟨?_, ?_, ?_, ?_⟩, GC_congr hG (fun i hi => ⟨e _ (by omega) (by omega) (by omega), e _ (by omega) (by omega) (by omega)⟩), by rw [e 7 (by omega) (by omega) (by omega)]; exact h7⟩
  · rw [eH, eL, eR, e11, e 9 (by omega) (by omega) (by omega), e 10 (by omega) (by omega) (by omega), show (0 : Int) + 0 + 0 = 0 from rfl, Int.zero_mul]
    omega
  · rw [e 9 (by omega) (by omega) (by omega)]; exact a2
  · rw [e 10 (by omega) (by omega) (by omega)]; exact a3
  · rw [e11]; omega
theorem JP_strip (h : JP N k) {i : Nat} (hi : i < 10) (ei : k 6 = nI i) {L s : Int32} (hL : 0 ≤ L.toInt ∧ L.toInt ≤ 1000) (hs : 0 ≤ s.toInt ∧ s.toInt ≤ 99) : JP N (pAs k i L s) := by
  obtain ⟨hI, hd, hA, hG, h7⟩ := h
  have w : ∀ j, j ≠ 6 → (j < 408 + 11 * i ∨ 412 + 11 * i < j) → pAs k i L s j = k j := fun j h6 hj => by
    unfold pAs
    rw [upd_n h6, upd_n (by omega), upd_n (by omega), upd_n (by omega), upd_n (by omega), upd_n (by omega)]
  have h10 : pAs k i L s (410 + 11 * i) = 0 := by
    unfold pAs
    rw [upd_n (by omega), upd_n (by omega), upd_n (by omega), upd_s]
  have h12 : pAs k i L s (412 + 11 * i) = 0 := by
    unfold pAs
    rw [upd_n (by omega), upd_s]
  have hz : k (410 + 11 * i) = 0 := by
    have h1 := hI.2.2.1.2.2.2 i hi
    have h2 := h1.2.2.2.2 (by rw [ei, zz_nI i (by omega)]; exact Int.le_refl _)
    rw [zz_e, z0]
    omega
  refine ⟨IP_strip hI hi ei hL hs, by rw [w 0 (by omega) (by omega), w 1 (by omega) (by omega)]; exact hd, AG_congr hA (w _ (by omega) (by omega)) (w _ (by omega) (by omega)) (w _ (by omega) (by omega)) (w _ (by omega) (by omega)) (fun j hj => w _ (by omega) (by omega)) (fun j hj => w _ (by omega) (by omega)) (fun j hj => ?_), fun j hj => ?_, by rw [w 7 (by omega) (by omega)]; exact h7⟩
  · by_cases hji : j = i
    · subst hji
      rw [h10, hz]
    · exact w _ (by omega) (by omega)
  · by_cases hji : j = i
    · subst hji
      rw [h10, h12]
      decide
    · rw [w _ (by omega) (by omega), w _ (by omega) (by omega)]
      exact hG j hj
theorem JP_flaw (h : JP N k) {i : Nat} (hi : i < 10) (h0 : 0 ≤ (k (411 + 11 * i)).toInt) (h1 : (k (411 + 11 * i)).toInt < 6) {v : Int32} : JP N (pFl k i v) := by
  obtain ⟨hI, hd, hA, hG, h7⟩ := h
  have w : ∀ j, j ≠ 411 + 11 * i → j ≠ 413 + 11 * i + (k (411 + 11 * i)).toInt.toNat → pFl k i v j = k j := fun j h6 hj => by
    unfold pFl
    rw [upd_n h6, upd_n hj]
  refine ⟨IP_flaw hI hi h0 h1, by rw [w 0 (by omega) (by omega), w 1 (by omega) (by omega)]; exact hd, AG_congr hA (w _ (by omega) (by omega)) (w _ (by omega) (by omega)) (w _ (by omega) (by omega)) (w _ (by omega) (by omega)) (fun j hj => w _ (by omega) (by omega)) (fun j hj => w _ (by omega) (by omega)) (fun j hj => w _ (by omega) (by omega)), GC_congr hG (fun j hj => ⟨w _ (by omega) (by omega), w _ (by omega) (by omega)⟩), by rw [w 7 (by omega) (by omega)]; exact h7⟩
theorem JP_cut (h : JP N k) {i : Nat} (hi : i < 10) (hc : 0 < ta k i) : JP N (ph k i) := by
  obtain ⟨hI, hd, hA, hG, h7⟩ := h
  have hr := hI.2.2.1
  have hs := hr.2.2.2 i hi
  have hIP := IP_cut hI (by omega) hi hc
  obtain ⟨p1, p2⟩ := AG_pc hA (Int.le_refl 0) hG hr hI.2.2.2 hi hc
  have w : ∀ j, j < 308 → j ≠ 10 → j ≠ 8 → j ≠ 9 → ph k i j = k j := fun j a b c d => by
    unfold ph
    split
    · rw [upd_n (by omega), pc_n (by omega) (by omega) b c d]
    · exact pc_n (by omega) (by omega) b c d
  have hAG : AG 0 (ph k i) ∧ GC (ph k i) := by
    unfold ph
    split
    · rename_i ht
      rw [if_pos ht] at p1
      have h2 := hI.2.2.2 (k (409 + 11 * i)).toInt.toNat (by omega)
      have eh : pc k i (308 + (k (409 + 11 * i)).toInt.toNat) = k (308 + (k (409 + 11 * i)).toInt.toNat) := pc_n (by omega) (by omega) (by omega) (by omega) (by omega)
      exact ⟨AG_hand p1 (by omega) (by rw [eh, zz_a (by rw [z1]; omega) (by rw [z1]; omega), z1]), GC_congr p2 (fun j hj => ⟨upd_n (by omega), upd_n (by omega)⟩)⟩
    · rename_i ht
      rw [if_neg ht] at p1
      exact ⟨p1, p2⟩
  exact ⟨IP_ag hIP.1 hIP.2.1 hIP.2.2.1 hIP.2.2.2 hAG.1, by rw [w 0 (by omega) (by omega) (by omega) (by omega), w 1 (by omega) (by omega) (by omega) (by omega)]; exact hd, hAG.1, hAG.2, by rw [w 7 (by omega) (by omega) (by omega) (by omega)]; exact h7⟩
/-- what laying keeps -/
def JL (q k : Nat → Int32) : Prop := IP 2000 k ∧ AG 0 k ∧ GC k ∧ aL q ≤ aL k ∧ k 0 = q 0 ∧ k 1 = q 1 ∧ k 7 = q 7
theorem pL_v (hI : IP 2000 k) {x y : Int32} (hi : ins k x y) (hl : lx k x y = -1) (hn : nf k (wn k x y).toInt ≠ -1) :
    (∀ s, s < 100 → rdI (pL k x y) s = rdI k s - (if s = (nf k (wn k x y).toInt).toNat then 1 else 0)) ∧ aL (pL k x y) = aL k + 1 ∧ (AG 0 k → GC k → AG 0 (pL k x y) ∧ GC (pL k x y)) := by
  obtain ⟨b1, b2, b3⟩ := nf_nb hI.2.2.1 (wn k x y).toInt
  have hi' := hi
  unfold ins at hi'
  have hp := hI.1
  unfold Rp at hp
  have es : (Int32.ofInt (nf k (wn k x y).toInt)).toInt = nf k (wn k x y).toInt := ofI b2 b3
  have hne := ofI_n b2 b3 hn
  have hav : av k (Int32.ofInt (nf k (wn k x y).toInt)).toInt.toNat := by
    rcases b1 with ⟨q1, -⟩ | ⟨s, q1, q2, -⟩
    · exact absurd q1 hn
    · rw [es, show (nf k (wn k x y).toInt).toNat = s by omega]; exact q2
  obtain ⟨w1, w2⟩ := pB_w hI.2.2.1 hI.2.2.2 (s := Int32.ofInt (nf k (wn k x y).toInt)) (by omega) (by omega) hav
  have hc : (12 * y.toInt + x.toInt).toNat < 144 := by omega
  have hcell : pB k (Int32.ofInt (nf k (wn k x y).toInt)) (164 + (12 * y.toInt + x.toInt).toNat) = -1 := by rw [pB_n (by omega) (by omega) (by omega) (by omega)]; exact hl
  have hput := aL_put hc hcell hne
  have eaL : aL (pB k (Int32.ofInt (nf k (wn k x y).toInt))) = aL k := ti_congr (fun j hj => by show (if pB k (Int32.ofInt (nf k (wn k x y).toInt)) (164 + j) = -1 then (0 : Int) else 1) = _; rw [pB_n (by omega) (by omega) (by omega) (by omega)])
  unfold pL
  rw [if_pos hl, if_neg hn]
  have hrB : Rs (pB k (Int32.ofInt (nf k (wn k x y).toInt))) := (IP_pB hI (by omega) (by omega) hav).2.2.1
  refine ⟨fun s hs100 => ?_, by rw [hput, eaL], fun hA hG => ⟨AG_laid (w2 0 (Int.le_refl 0) hA hG).1 hput hc (by omega), GC_congr (w2 0 (Int.le_refl 0) hA hG).2 (fun i hi => ⟨upd_n (by omega), upd_n (by omega)⟩)⟩⟩
  rw [rdI_congr (k := pB k (Int32.ofInt (nf k (wn k x y).toInt))) (upd_n (by omega)) (fun i hi => ⟨upd_n (by omega), ga_congr hrB hi (upd_n (by omega)) (upd_n (by omega)) (fun j _ _ _ => upd_n (by omega))⟩), w1 s hs100, es]
theorem JL_pL (h : JL q k) {x y : Int32} (hi : ins k x y) : JL q (pL k x y) := by
  obtain ⟨hI, hA, hG, hL, h0, h1, h7⟩ := h
  obtain ⟨b1, b2, b3⟩ := nf_nb hI.2.2.1 (wn k x y).toInt
  have w : ∀ j, j < 164 → j ≠ 10 → j ≠ 8 → j ≠ 9 → pL k x y j = k j := fun j a b c d => pL_w a b c d
  refine ⟨IP_pL hI hi b1 b3, ?_, ?_, ?_, by rw [w 0 (by omega) (by omega) (by omega) (by omega)]; exact h0, by rw [w 1 (by omega) (by omega) (by omega) (by omega)]; exact h1, by rw [w 7 (by omega) (by omega) (by omega) (by omega)]; exact h7⟩
  · by_cases hl : lx k x y = -1
    · by_cases hn : nf k (wn k x y).toInt = -1
      · have e : pL k x y = k := by unfold pL; rw [if_pos hl, if_pos hn]
        rw [e]
        exact hA
      · exact ((pL_v hI hi hl hn).2.2 hA hG).1
    · have e : pL k x y = k := by unfold pL; rw [if_neg hl]
      rw [e]
      exact hA
  · by_cases hl : lx k x y = -1
    · by_cases hn : nf k (wn k x y).toInt = -1
      · have e : pL k x y = k := by unfold pL; rw [if_pos hl, if_pos hn]
        rw [e]
        exact hG
      · exact ((pL_v hI hi hl hn).2.2 hA hG).2
    · have e : pL k x y = k := by unfold pL; rw [if_neg hl]
      rw [e]
      exact hG
  · by_cases hl : lx k x y = -1
    · by_cases hn : nf k (wn k x y).toInt = -1
      · have e : pL k x y = k := by unfold pL; rw [if_pos hl, if_pos hn]
        rw [e]
        exact hL
      · have := (pL_v hI hi hl hn).2.1
        omega
    · have e : pL k x y = k := by unfold pL; rw [if_neg hl]
      rw [e]
      exact hL
theorem JL_pb (h : JL k k) : ∀ t : Nat, (t : Int) ≤ 2 * ((k 0).toInt + (k 1).toInt - 2) → JL k (pb k t)
  | 0, _ => h
  | t + 1, ht => by
    have ih := JL_pb h t (by omega)
    exact JL_pL ih (ins_congr ih.2.2.2.2.1 ih.2.2.2.2.2.1 (bO_in h.1.1 (n := t) (by omega)))
theorem JL_pr (h : JL q k) {y : Nat} (hy : (y : Int) < (q 1).toInt) : ∀ t : Nat, (t : Int) + 2 ≤ (q 0).toInt → JL q (pr k y t)
  | 0, _ => h
  | t + 1, ht => by
    have ih := JL_pr h hy t (by omega)
    have hp := ih.1.1
    unfold Rp at hp
    have e0 := ih.2.2.2.2.1
    have e1 := ih.2.2.2.2.2.1
    rw [e0, e1] at hp
    refine JL_pL ih ?_
    unfold ins
    rw [e0, e1, zz_nI (t + 1) (by omega), zz_nI y (by omega)]
    omega
theorem JL_pf (h : JL q k) {w : Nat} (hw : (w : Int) + 2 ≤ (q 0).toInt) : ∀ t : Nat, (t : Int) + 2 ≤ (q 1).toInt → JL q (pf k w t)
  | 0, _ => h
  | t + 1, ht => JL_pr (JL_pf h hw t (by omega)) (y := t + 1) (by omega) w hw
theorem JL_pA (h : JL k k) : JL k (pA k) := by
  have hp := h.1.1
  unfold Rp at hp
  exact JL_pf (JL_pb h _ (by omega)) (by omega) _ (by omega)
theorem JP_JL (h : JP N k) : JL k k := ⟨h.1, h.2.2.1, h.2.2.2.1, Int.le_refl _, rfl, rfl, rfl⟩
theorem JL_JP (h : JP N q) (h' : JL q k) : JP N k := ⟨h'.1, by rw [h'.2.2.2.2.1, h'.2.2.2.2.2.1]; exact h.2.1, h'.2.1, h'.2.2.1, by rw [h'.2.2.2.2.2.2]; exact h.2.2.2.2⟩
theorem JP_pL (h : JP N k) {x y : Int32} (hi : ins k x y) : JP N (pL k x y) := JL_JP h (JL_pL (JP_JL h) hi)
theorem JP_pA (h : JP N k) : JP N (pA k) := JL_JP h (JL_pA (JP_JL h))
theorem JP_lift (h : JP N k) (hN : N ≤ 1000) {x y : Int32} (hi : ins k x y) (hl : lx k x y ≠ -1) : JP (N + 1) (pli k x y) := by
  obtain ⟨hI, hd, hA, hG, h7⟩ := h
  have hp := hI.1
  unfold Rp at hp
  have hi' := hi
  unfold ins at hi'
  have hlr := lx_r hI.1 hI.2.1 hi
  have hl0 : 0 ≤ (lx k x y).toInt := by
    have hl' := hl
    rw [Ne, zz_e, zm1] at hl'
    omega
  obtain ⟨a, a1, a2⟩ := nat_of (a := x) hi'.1
  obtain ⟨c, c1, c2⟩ := nat_of (a := y) hi'.2.2.1
  have ecell : (12 * y.toInt + x.toInt).toNat = 12 * c + a := by omega
  have hbd := AG_bd hA (Int.le_refl 0) hI.2.2.1 hI.2.2.2
  have e7 : (k 7 + 1).toInt = (k 7).toInt + 1 := by rw [zz_a (by rw [z1]; omega) (by rw [z1]; omega), z1]
  -- lifted
  have hL := aL_lift (k := k) (j := 12 * c + a) (by omega) (by rw [← ecell]; exact hl)
  have A1 : AG 1 (upd k (164 + (12 * c + a)) (-1)) := AG_laid (d := -1) hA (by rw [hL]; omega) (by omega) (by omega)
  have I1 : IP 2000 (upd k (164 + (12 * c + a)) (-1)) := IP_ld hI (by omega) (by omega)
  have A2 : AG 1 (upd (upd k (164 + (12 * c + a)) (-1)) 7 (k 7 + 1)) := AG_congr A1 (upd_n (by omega)) (upd_n (by omega)) (upd_n (by omega)) (upd_n (by omega)) (fun j hj => upd_n (by omega)) (fun j hj => upd_n (by omega)) (fun j hj => upd_n (by omega))
  have I2 : IP 2000 (upd (upd k (164 + (12 * c + a)) (-1)) 7 (k 7 + 1)) := IP_up I1 (by omega)
  unfold pli
  rw [ecell]
  split
  · have A3 : AG (0 + 1) (upd (upd (upd k (164 + (12 * c + a)) (-1)) 7 (k 7 + 1)) 8 (k 8 + 1)) := AG_congr A2 (upd_n (by omega)) (upd_n (by omega)) (upd_n (by omega)) (upd_n (by omega)) (fun j hj => upd_n (by omega)) (fun j hj => upd_n (by omega)) (fun j hj => upd_n (by omega))
    have I3 : IP 2000 (upd (upd (upd k (164 + (12 * c + a)) (-1)) 7 (k 7 + 1)) 8 (k 8 + 1)) := IP_up I2 (by omega)
    have e9 : upd (upd (upd k (164 + (12 * c + a)) (-1)) 7 (k 7 + 1)) 8 (k 8 + 1) 9 = k 9 := by rw [upd_n (by omega), upd_n (by omega), upd_n (by omega)]
    have e2 : upd (upd (upd k (164 + (12 * c + a)) (-1)) 7 (k 7 + 1)) 8 (k 8 + 1) 2 = k 2 := by rw [upd_n (by omega), upd_n (by omega), upd_n (by omega)]
    have A4 := AG_break A3 I3.2.2.1 (by rw [e9]; omega)
    rw [e9, e2] at A4
    refine ⟨IP_up I3 (by omega), ?_, A4, GC_congr hG (fun i hi => ⟨?_, ?_⟩), ?_⟩
    · rw [upd_n (by omega), upd_n (by omega), upd_n (by omega), upd_n (by omega), upd_n (by omega), upd_n (by omega), upd_n (by omega), upd_n (by omega)]
      exact hd
    · rw [upd_n (by omega), upd_n (by omega), upd_n (by omega), upd_n (by omega)]
    · rw [upd_n (by omega), upd_n (by omega), upd_n (by omega), upd_n (by omega)]
    · rw [upd_n (by omega), upd_n (by omega), upd_s, e7]
      omega
  · have hhs := hI.2.2.2 (lx k x y).toInt.toNat (by omega)
    have ev : (k (308 + (lx k x y).toInt.toNat) + 1).toInt = (k (308 + (lx k x y).toInt.toNat)).toInt + 1 := by rw [zz_a (by rw [z1]; omega) (by rw [z1]; omega), z1]
    have eh : upd (upd k (164 + (12 * c + a)) (-1)) 7 (k 7 + 1) (308 + (lx k x y).toInt.toNat) = k (308 + (lx k x y).toInt.toNat) := by rw [upd_n (by omega), upd_n (by omega)]
    have A4 : AG 0 (upd (upd (upd k (164 + (12 * c + a)) (-1)) 7 (k 7 + 1)) (308 + (lx k x y).toInt.toNat) (k (308 + (lx k x y).toInt.toNat) + 1)) := AG_hand (g := 0) A2 (by omega) (by rw [ev, eh])
    have I4 := IP_hand I2 (s := (lx k x y).toInt.toNat) (v := k (308 + (lx k x y).toInt.toNat) + 1) (by omega) (by omega) (by omega)
    refine ⟨IP_ag I4.1 I4.2.1 I4.2.2.1 I4.2.2.2 A4, ?_, A4, GC_congr hG (fun i hi => ⟨?_, ?_⟩), ?_⟩
    · rw [upd_n (by omega), upd_n (by omega), upd_n (by omega), upd_n (by omega), upd_n (by omega), upd_n (by omega)]
      exact hd
    · rw [upd_n (by omega), upd_n (by omega), upd_n (by omega)]
    · rw [upd_n (by omega), upd_n (by omega), upd_n (by omega)]
    · rw [upd_n (by omega), upd_s, e7]
      omega
theorem JP_pattern (h : JP N k) {s : Nat → Int32} {e : Nat} (he : e ≤ 7) (hs : ∀ j, j < e + 1 → 0 ≤ (s j).toInt ∧ (s j).toInt ≤ 99) : JP N (upd (fun j => if 12 ≤ j ∧ j < 20 then s (j - 12) else k j) 4 (nI (e + 1))) := by
  obtain ⟨hI, hd, hA, hG, h7⟩ := h
  have hpp := hI.1
  unfold Rp at hpp
  have en := zz_nI (e + 1) (by omega)
  have w : ∀ j, (j < 12 ∨ 20 ≤ j) → j ≠ 4 → upd (fun j => if 12 ≤ j ∧ j < 20 then s (j - 12) else k j) 4 (nI (e + 1)) j = k j := fun j hj h4 => by
    rw [upd_n h4]
    show (if 12 ≤ j ∧ j < 20 then s (j - 12) else k j) = k j
    rw [if_neg (by omega)]
  have wp : ∀ j, j < 8 → upd (fun j => if 12 ≤ j ∧ j < 20 then s (j - 12) else k j) 4 (nI (e + 1)) (12 + j) = s j := fun j hj => by
    rw [upd_n (by omega)]
    show (if 12 ≤ 12 + j ∧ 12 + j < 20 then s (12 + j - 12) else k (12 + j)) = s j
    rw [if_pos (by omega), Nat.add_sub_cancel_left]
  have w4 : upd (fun j => if 12 ≤ j ∧ j < 20 then s (j - 12) else k j) 4 (nI (e + 1)) 4 = nI (e + 1) := upd_s
  generalize upd (fun j => if 12 ≤ j ∧ j < 20 then s (j - 12) else k j) 4 (nI (e + 1)) = kk at *
  refine ⟨⟨?_, ?_, ?_, fun q hq => by rw [w _ (by omega) (by omega)]; exact hI.2.2.2 q hq⟩, by rw [w 0 (by omega) (by omega), w 1 (by omega) (by omega)]; exact hd, AG_congr hA (w _ (by omega) (by omega)) (w _ (by omega) (by omega)) (w _ (by omega) (by omega)) (w _ (by omega) (by omega)) (fun j hj => w _ (by omega) (by omega)) (fun j hj => w _ (by omega) (by omega)) (fun j hj => w _ (by omega) (by omega)), GC_congr hG (fun i hi => ⟨w _ (by omega) (by omega), w _ (by omega) (by omega)⟩), by rw [w 7 (by omega) (by omega)]; exact h7⟩
  · unfold Rp
    rw [w 0 (by omega) (by omega), w 1 (by omega) (by omega), w 5 (by omega) (by omega), w4, en]
    exact ⟨hpp.1, hpp.2.1, by omega, hpp.2.2.2⟩
  · have hlr := hI.2.1
    refine ⟨fun j hj => by rw [w _ (by omega) (by omega)]; exact hlr.1 j hj, fun x y hx hy hn => ?_, fun j hj => by rw [w _ (by omega) (by omega)]; exact hlr.2.2.1 j hj, fun j hj => ?_⟩
    · rw [w 0 (by omega) (by omega), w 1 (by omega) (by omega)] at hn
      rw [w _ (by omega) (by omega)]
      exact hlr.2.1 x y hx hy hn
    · rw [w4, en] at hj
      rw [wp j (by omega)]
      exact hs j (by omega)
  · exact Rs_congr hI.2.2.1 (w 2 (by omega) (by omega)) (w 3 (by omega) (by omega)) (w 6 (by omega) (by omega)) (fun j h1 h2 => w j (by omega) (by omega))
/-- what holds between two calls -/
def KJ (N : Int) (k : Nat → Int32) (u : Nat) (pg : Nat → Nat → Int32) (tl : Nat) : Prop := JP N k ∧ u ≤ 5 ∧ tl ≤ 80 ∧ ∀ i, i < u → JP N (pg i)
def JV (N : Int) (b : Nat) (M : mm_M) : Prop := ∃ k u pg tl tx, Ci M b k u pg tl tx ∧ KJ N k u pg tl
variable {u tl : Nat} {pg : Nat → Nat → Int32}
theorem KJ_keep (h : KJ N k u pg tl) {N' : Int} (hN : N ≤ N') (h' : JP N' k') : KJ N' k' (uk u) (pgk u k pg) tl := by
  obtain ⟨hP, hu, ht, hk⟩ := h
  refine ⟨h', by unfold uk; split <;> omega, ht, fun i hi => ?_⟩
  unfold uk at hi
  unfold pgk
  by_cases h5 : u < 5
  · rw [if_pos h5] at hi ⊢
    show JP N' (if i = u then k else pg i)
    split
    · exact JP_mono hP hN
    · exact JP_mono (hk i (by omega)) hN
  · rw [if_neg h5] at hi ⊢
    show JP N' (if i = 4 then k else rot pg i)
    split
    · exact JP_mono hP hN
    · have e : rot pg i = pg (i + 1) := by unfold rot; rw [if_pos (by omega)]
      rw [e]
      exact JP_mono (hk (i + 1) (by omega)) hN
theorem uk_pos (u : Nat) : 0 < uk u ∧ uk u ≤ 5 := by unfold uk; split <;> omega
theorem pgk_top : pgk u k pg (uk u - 1) = k := by
  unfold pgk uk
  split
  · show (if u + 1 - 1 = u then k else pg (u + 1 - 1)) = k
    rw [if_pos (by omega)]
  · show (if 5 - 1 = 4 then k else rot pg (5 - 1)) = k
    rw [if_pos rfl]
theorem KJ_mono (h : KJ N k u pg tl) {N' : Int} (hN : N ≤ N') : KJ N' k u pg tl := ⟨JP_mono h.1 hN, h.2.1, h.2.2.1, fun i hi => JP_mono (h.2.2.2 i hi) hN⟩
/-- back to where it was -/
theorem KJ_back (h : KJ N k (uk u) (pgk u q pg) tl) (hq : JP N q) : KJ N q (uk u - 1) (pgk u q pg) tl := ⟨hq, by have := uk_pos u; omega, h.2.2.1, fun i hi => h.2.2.2 i (by omega)⟩
theorem JV_0 {b : Nat} {M : mm_M} (hC : Ci M b k0 0 (fun _ => k0) 0 (fun _ => 0)) : JV 0 b M := ⟨k0, 0, fun _ => k0, 0, fun _ => 0, hC, JP_0, by omega, by omega, fun i hi => by omega⟩
end JK
