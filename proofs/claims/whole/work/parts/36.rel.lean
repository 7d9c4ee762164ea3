/-! the class's page k (rows of 12 cells) and the reference's m (rows as wide as the floor) -/
def PR (k m : Nat → Int32) : Prop := (∀ j, j < 12 → m j = k j) ∧ (∀ j, 308 ≤ j → j < 518 → m j = k j) ∧ (∀ j : Nat, (j : Int) < (k 4).toInt → m (12 + j) = k (12 + j)) ∧
  (∀ x y : Nat, (x : Int) < (k 0).toInt → (y : Int) < (k 1).toInt → m (20 + (x + (k 0).toInt.toNat * y)) = k (20 + (12 * y + x))) ∧
  ∀ x y : Nat, (x : Int) < (k 0).toInt → (y : Int) < (k 1).toInt → m (164 + (x + (k 0).toInt.toNat * y)) = k (164 + (12 * y + x))
theorem PR.lo {k m : Nat → Int32} (h : PR k m) : ∀ j, j < 12 → m j = k j := h.1
theorem PR.hi {k m : Nat → Int32} (h : PR k m) : ∀ j, 308 ≤ j → j < 518 → m j = k j := h.2.1
theorem PR.pt {k m : Nat → Int32} (h : PR k m) : ∀ j : Nat, (j : Int) < (k 4).toInt → m (12 + j) = k (12 + j) := h.2.2.1
theorem PR.wt {k m : Nat → Int32} (h : PR k m) : ∀ x y : Nat, (x : Int) < (k 0).toInt → (y : Int) < (k 1).toInt → m (20 + (x + (k 0).toInt.toNat * y)) = k (20 + (12 * y + x)) := h.2.2.2.1
theorem PR.ld {k m : Nat → Int32} (h : PR k m) : ∀ x y : Nat, (x : Int) < (k 0).toInt → (y : Int) < (k 1).toInt → m (164 + (x + (k 0).toInt.toNat * y)) = k (164 + (12 * y + x)) := h.2.2.2.2
theorem cx_inj {w x y a b : Nat} (hx : x < w) (ha : a < w) (h : x + w * y = a + w * b) : x = a ∧ y = b := by
  have e1 : (x + w * y) % w = x := by rw [Nat.add_mul_mod_self_left, Nat.mod_eq_of_lt hx]
  have e2 : (a + w * b) % w = a := by rw [Nat.add_mul_mod_self_left, Nat.mod_eq_of_lt ha]
  have e3 : (x + w * y) / w = y := by rw [Nat.add_mul_div_left _ _ (by omega), Nat.div_eq_of_lt hx, Nat.zero_add]
  have e4 : (a + w * b) / w = b := by rw [Nat.add_mul_div_left _ _ (by omega), Nat.div_eq_of_lt ha, Nat.zero_add]
  rw [h] at e1 e3
  exact ⟨by omega, by omega⟩
theorem cx_lt {w h x y : Nat} (hw : w ≤ 12) (hh : h ≤ 12) (hx : x < w) (hy : y < h) : x + w * y < 144 := by
  have : w * y ≤ 12 * 11 := Nat.mul_le_mul (by omega) (by omega)
  omega
section RL
variable {k m : Nat → Int32} {n : Int}
theorem PR_up (h : PR k m) {j : Nat} (hj : (j < 12 ∧ j ≠ 0 ∧ j ≠ 1 ∧ j ≠ 4) ∨ (308 ≤ j ∧ j < 518)) (v : Int32) (hp : Rp k) : PR (upd k j v) (upd m j v) := by
  unfold Rp at hp
  have e0 : upd k j v 0 = k 0 := upd_n (by omega)
  have e1 : upd k j v 1 = k 1 := upd_n (by omega)
  have e4 : upd k j v 4 = k 4 := upd_n (by omega)
  refine ⟨fun i hi => ?_, fun i h1 h2 => ?_, fun i hi => ?_, fun x y hx hy => ?_, fun x y hx hy => ?_⟩
  · unfold upd; rw [h.lo i hi]
  · unfold upd; rw [h.hi i h1 h2]
  · rw [e4] at hi
    rw [upd_n (by omega), upd_n (by omega), h.pt i hi]
  · rw [e0] at hx; rw [e1] at hy
    have := cx_lt (w := (k 0).toInt.toNat) (h := (k 1).toInt.toNat) (x := x) (y := y) (by omega) (by omega) (by omega) (by omega)
    rw [e0, upd_n (by omega), upd_n (by omega), h.wt x y hx hy]
  · rw [e0] at hx; rw [e1] at hy
    have := cx_lt (w := (k 0).toInt.toNat) (h := (k 1).toInt.toNat) (x := x) (y := y) (by omega) (by omega) (by omega) (by omega)
    rw [e0, upd_n (by omega), upd_n (by omega), h.ld x y hx hy]
theorem PR_ld (h : PR k m) (hp : Rp k) {x y : Nat} (hx : (x : Int) < (k 0).toInt) (hy : (y : Int) < (k 1).toInt) (v : Int32) : PR (upd k (164 + (12 * y + x)) v) (upd m (164 + (x + (k 0).toInt.toNat * y)) v) := by
  unfold Rp at hp
  have hb := cx_lt (w := (k 0).toInt.toNat) (h := (k 1).toInt.toNat) (x := x) (y := y) (by omega) (by omega) (by omega) (by omega)
  have e0 : upd k (164 + (12 * y + x)) v 0 = k 0 := upd_n (by omega)
  have e1 : upd k (164 + (12 * y + x)) v 1 = k 1 := upd_n (by omega)
  have e4 : upd k (164 + (12 * y + x)) v 4 = k 4 := upd_n (by omega)
  refine ⟨fun i hi => ?_, fun i h1 h2 => ?_, fun i hi => ?_, fun a b ha hb => ?_, fun a b ha hb => ?_⟩
  · rw [upd_n (by omega), upd_n (by omega), h.lo i hi]
  · rw [upd_n (by omega), upd_n (by omega), h.hi i h1 h2]
  · rw [e4] at hi
    rw [upd_n (by omega), upd_n (by omega), h.pt i hi]
  · rw [e0] at ha; rw [e1] at hb
    have := cx_lt (w := (k 0).toInt.toNat) (h := (k 1).toInt.toNat) (x := a) (y := b) (by omega) (by omega) (by omega) (by omega)
    rw [e0, upd_n (by omega), upd_n (by omega), h.wt a b ha hb]
  · rw [e0] at ha; rw [e1] at hb
    rw [e0]
    by_cases hq : a = x ∧ b = y
    · obtain ⟨rfl, rfl⟩ := hq
      rw [upd_s, upd_s]
    · rw [upd_n (fun e => hq (cx_inj (w := (k 0).toInt.toNat) (by omega) (by omega) (by omega))), upd_n (by omega), h.ld a b ha hb]
theorem PR_wt (h : PR k m) (hp : Rp k) {x y : Nat} (hx : (x : Int) < (k 0).toInt) (hy : (y : Int) < (k 1).toInt) (v : Int32) : PR (upd k (20 + (12 * y + x)) v) (upd m (20 + (x + (k 0).toInt.toNat * y)) v) := by
  unfold Rp at hp
  have hb := cx_lt (w := (k 0).toInt.toNat) (h := (k 1).toInt.toNat) (x := x) (y := y) (by omega) (by omega) (by omega) (by omega)
  have e0 : upd k (20 + (12 * y + x)) v 0 = k 0 := upd_n (by omega)
  have e1 : upd k (20 + (12 * y + x)) v 1 = k 1 := upd_n (by omega)
  have e4 : upd k (20 + (12 * y + x)) v 4 = k 4 := upd_n (by omega)
  refine ⟨fun i hi => ?_, fun i h1 h2 => ?_, fun i hi => ?_, fun a b ha hb => ?_, fun a b ha hb => ?_⟩
  · rw [upd_n (by omega), upd_n (by omega), h.lo i hi]
  · rw [upd_n (by omega), upd_n (by omega), h.hi i h1 h2]
  · rw [e4] at hi
    rw [upd_n (by omega), upd_n (by omega), h.pt i hi]
  · rw [e0] at ha; rw [e1] at hb
    rw [e0]
    by_cases hq : a = x ∧ b = y
    · obtain ⟨rfl, rfl⟩ := hq
      rw [upd_s, upd_s]
    · rw [upd_n (fun e => hq (cx_inj (w := (k 0).toInt.toNat) (by omega) (by omega) (by omega))), upd_n (by omega), h.wt a b ha hb]
  · rw [e0] at ha; rw [e1] at hb
    have := cx_lt (w := (k 0).toInt.toNat) (h := (k 1).toInt.toNat) (x := a) (y := b) (by omega) (by omega) (by omega) (by omega)
    rw [e0, upd_n (by omega), upd_n (by omega), h.ld a b ha hb]
theorem PR_Rp (h : PR k m) (hp : Rp k) : Rp m := by
  unfold Rp
  rw [h.lo 0 (by omega), h.lo 1 (by omega), h.lo 4 (by omega), h.lo 5 (by omega)]
  exact hp
theorem PR_Rs (h : PR k m) (hr : Rs k) : Rs m := Rs_congr hr (h.lo 2 (by omega)) (h.lo 3 (by omega)) (h.lo 6 (by omega)) (fun j h1 h2 => h.hi j (by omega) h2)
theorem PR_tp (h : PR k m) {i : Nat} (hi : i < 10) (t : Nat) : tp m i t = tp k i t := by
  unfold tp
  rw [h.hi _ (by omega) (by omega), h.lo 2 (by omega), h.lo 3 (by omega)]
theorem PR_ta (h : PR k m) {i : Nat} (hi : i < 10) : ta m i = ta k i := by
  unfold ta
  rw [h.hi (408 + 11 * i) (by omega) (by omega), h.hi (410 + 11 * i) (by omega) (by omega), h.lo 2 (by omega), h.lo 3 (by omega)]
theorem PR_tg (h : PR k m) (hr : Rs k) {i : Nat} (hi : i < 10) (t : Nat) : tg m i t = tg k i t := by
  have := (hr.2.2.2 i hi).2.2.2.1
  unfold tg
  rw [PR_tp h hi, h.lo 2 (by omega), hf_congr (h.hi _ (by omega) (by omega)) (fun j hj => h.hi _ (by omega) (by omega))]
theorem PR_tgf (h : PR k m) (hr : Rs k) {i : Nat} (hi : i < 10) : tg m i = tg k i := funext (PR_tg h hr hi)
theorem PR_ga (h : PR k m) (hr : Rs k) {i : Nat} (hi : i < 10) : ga m i = ga k i := by
  unfold ga
  rw [PR_ta h hi, PR_tgf h hr hi]
theorem PR_gv (h : PR k m) (hr : Rs k) (s : Int32) {i : Nat} (hi : i < 10) : gv m s i = gv k s i := by
  unfold gv
  rw [PR_ga h hr hi, h.hi (409 + 11 * i) (by omega) (by omega)]
theorem fi_congr {p q : Nat → Bool} : ∀ {n : Nat}, (∀ i, i < n → p i = q i) → fi p n = fi q n
  | 0, _ => rfl
  | n + 1, h => by
    show (if fi p n < n then fi p n else if p n then n else n + 1) = (if fi q n < n then fi q n else if q n then n else n + 1)
    rw [fi_congr (n := n) (fun i hi => h i (by omega)), h n (by omega)]
theorem PR_fi (h : PR k m) (hr : Rs k) (s : Int32) : fi (gv m s) 10 = fi (gv k s) 10 := fi_congr (fun i hi => PR_gv h hr s hi)
theorem PR_av (h : PR k m) (hr : Rs k) : av m = av k := by
  funext s
  apply propext
  unfold av
  constructor
  · rintro (⟨a, b⟩ | ⟨q, a, b, c⟩)
    · exact Or.inl ⟨a, by rw [← h.hi _ (by omega) (by omega)]; exact b⟩
    · exact Or.inr ⟨q, a, by rw [← h.hi _ (by omega) (by omega)]; exact b, by rw [← PR_ga h hr a]; exact c⟩
  · rintro (⟨a, b⟩ | ⟨q, a, b, c⟩)
    · exact Or.inl ⟨a, by rw [h.hi _ (by omega) (by omega)]; exact b⟩
    · exact Or.inr ⟨q, a, by rw [h.hi _ (by omega) (by omega)]; exact b, by rw [PR_ga h hr a]; exact c⟩
theorem PR_nf (h : PR k m) (hr : Rs k) (w : Int) : nf m w = nf k w := by
  unfold nf
  rw [PR_av h hr]
theorem PR_rdy (h : PR k m) (hr : Rs k) (s : Int32) : rdy m s 10 = rdy k s 10 := by
  unfold rdy
  exact su_congr (fun i hi => by rw [PR_ga h hr hi, h.hi (409 + 11 * i) (by omega) (by omega)])
theorem PR_pc (h : PR k m) (hp : Rp k) (hr : Rs k) {i : Nat} (hi : i < 10) : PR (pc k i) (pc m i) := by
  have es : ps' m i = ps' k i := by
    unfold ps'
    rw [h.hi (410 + 11 * i) (by omega) (by omega), h.hi (408 + 11 * i) (by omega) (by omega), h.lo 2 (by omega), h.lo 3 (by omega)]
  have up : ∀ {k m : Nat → Int32} {j : Nat} {v : Int32}, PR k m → Rp k → ((j < 12 ∧ j ≠ 0 ∧ j ≠ 1 ∧ j ≠ 4 ∧ j ≠ 5) ∨ (308 ≤ j ∧ j < 518)) → PR (upd k j v) (upd m j v) ∧ Rp (upd k j v) := by
    intro k m j v h hp hj
    refine ⟨PR_up h (by omega) v hp, ?_⟩
    unfold Rp
    rw [upd_n (by omega), upd_n (by omega), upd_n (by omega), upd_n (by omega)]
    exact hp
  unfold pc
  rw [PR_tg h hr hi, es, h.hi (410 + 11 * i) (by omega) (by omega), h.hi (408 + 11 * i) (by omega) (by omega), h.hi (412 + 11 * i) (by omega) (by omega), h.lo 2 (by omega), h.lo 8 (by omega), h.lo 9 (by omega), h.lo 10 (by omega)]
  split
  · obtain ⟨a1, b1⟩ := up (j := 410 + 11 * i) (v := ps' k i) h hp (by omega)
    obtain ⟨a2, b2⟩ := up (j := 412 + 11 * i) (v := k (412 + 11 * i) + 1) a1 b1 (by omega)
    exact (up a2 b2 (by omega)).1
  · obtain ⟨a1, b1⟩ := up (j := 410 + 11 * i) (v := ps' k i) h hp (by omega)
    obtain ⟨a2, b2⟩ := up (j := 10) (v := (k 10 + ((k (408 + 11 * i) - k (410 + 11 * i)) - k 2 - (k (408 + 11 * i) - ps' k i)))) a1 b1 (by omega)
    obtain ⟨a3, b3⟩ := up (j := 8) (v := k 8 + 1) a2 b2 (by omega)
    exact (up a3 b3 (by omega)).1
theorem pcs_Rp (hp : Rp k) {i : Nat} : ∀ n, Rp (pcs k i n) := by
  intro n
  unfold Rp
  rw [pcs_n (by omega) (by omega) (by omega) (by omega) (by omega), pcs_n (by omega) (by omega) (by omega) (by omega) (by omega), pcs_n (by omega) (by omega) (by omega) (by omega) (by omega), pcs_n (by omega) (by omega) (by omega) (by omega) (by omega)]
  exact hp
theorem PR_pcs (h : PR k m) (hp : Rp k) (hr : Rs k) {i : Nat} (hi : i < 10) : ∀ n, n ≤ ta k i → PR (pcs k i n) (pcs m i n)
  | 0, _ => h
  | n + 1, hn => PR_pc (PR_pcs h hp hr hi n (by omega)) (pcs_Rp hp n) (pcs_b hr hi n (by omega)).2 hi
theorem PR_pB (h : PR k m) (hp : Rp k) (hr : Rs k) {s : Int32} (h0 : 0 ≤ s.toInt) (h1 : s.toInt ≤ 99) (ha : av k s.toInt.toNat) : PR (pB k s) (pB m s) := by
  unfold pB
  rw [h.hi (308 + s.toInt.toNat) (by omega) (by omega)]
  by_cases hc : 0 < (k (308 + s.toInt.toNat)).toInt
  · rw [if_pos hc, if_pos hc]
    exact PR_up h (by omega) _ hp
  · rw [if_neg hc, if_neg hc, PR_fi h hr]
    obtain ⟨i1, i2, -⟩ := fi_sp (av_gv h0 ha hc)
    generalize fi (gv k s) 10 = i at *
    simp only [gv, decide_eq_true_eq] at i2
    rw [PR_tgf h hr i1, PR_ta h i1]
    obtain ⟨n1, n2, n3⟩ := fi_sp (cn_pos.mp i2.2)
    exact PR_pcs h hp hr i1 _ (by omega)
/-- what cells want, how many are laid -/
theorem PR_bw (h : PR k m) (hp : Rp k) {t : Int} (h0 : 0 ≤ t) (h1 : t < 2 * ((k 0).toInt + (k 1).toInt - 2)) : bw m t = bw k t := by
  unfold Rp at hp
  have hs := sI_r (w := (k 0).toInt) (h := (k 1).toInt) (l := (k 4).toInt) (y := (k 5).toInt) (n := t) (by omega) (by omega) (by omega) h0 h1
  unfold bw
  rw [h.lo 0 (by omega), h.lo 1 (by omega), h.lo 4 (by omega), h.lo 5 (by omega), h.pt _ (by omega)]
theorem PR_wn (h : PR k m) (hp : Rp k) {x y : Nat} (hx : (x : Int) < (k 0).toInt) (hy : (y : Int) < (k 1).toInt) : wq m x y = wn k (nI x) (nI y) := by
  have hp' := hp
  unfold Rp at hp
  unfold wq wn
  rw [zz_nI x (by omega), zz_nI y (by omega), h.lo 0 (by omega), h.lo 1 (by omega)]
  split
  · exact PR_bw h hp' (bn_r (by omega) (by omega) (by omega) hx (by omega) hy).1 (bn_r2 (by omega) (by omega) (by omega) hx (by omega) hy)
  · rw [h.wt x y hx hy]
    congr 2
theorem lx_nn (k : Nat → Int32) {x y : Nat} (hx : x < 12) (hy : y < 12) : lx k (nI x) (nI y) = k (164 + (12 * y + x)) := by
  unfold lx
  rw [zz_nI x (by omega), zz_nI y (by omega)]
  congr 2
theorem PR_lc (h : PR k m) (hp : Rp k) (hl : Rl k) : lq m ((m 0).toInt * (m 1).toInt).toNat = lc k := by
  unfold Rp at hp
  rw [h.lo 0 (by omega), h.lo 1 (by omega)]
  obtain ⟨w, ew⟩ : ∃ w : Nat, (k 0).toInt = w := ⟨(k 0).toInt.toNat, by omega⟩
  obtain ⟨r, er⟩ : ∃ r : Nat, (k 1).toInt = r := ⟨(k 1).toInt.toNat, by omega⟩
  have e : ((k 0).toInt * (k 1).toInt).toNat = w * r := by rw [ew, er, ← Int.natCast_mul, Int.toNat_natCast]
  unfold lq lc
  rw [e, su_mul, show 144 = 12 * 12 from rfl, su_mul, su_cut (n := r) (m := 12) (by omega) (fun y h1 h2 => su_zero (fun x hx => by
    rw [show x + 12 * y = 12 * y + x by omega, hl.2.1 x y hx h2 (by omega), if_pos rfl]))]
  refine su_congr (fun y hy => ?_)
  rw [su_cut (f := fun x => if k (164 + (x + 12 * y)) = -1 then (0 : Int32) else 1) (n := w) (m := 12) (by omega) (fun x h1 h2 => by
    rw [show x + 12 * y = 12 * y + x by omega, hl.2.1 x y h2 (by omega) (by omega), if_pos rfl])]
  refine su_congr (fun x hx => ?_)
  have := h.ld x y (by omega) (by omega)
  rw [ew] at this
  simp only [Int.toNat_natCast] at this
  rw [this, show x + 12 * y = 12 * y + x by omega]
end RL
