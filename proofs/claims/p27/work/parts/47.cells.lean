/-! the law's sound: the cells -/
def sB (K : Int32) : Int32 := if K < 0 then 0 else if (30 : Int32) ≤ K then 0 else (1 : Int32) <<< (K &&& 31)
def kb (w h x y : Nat) : Bool := decide (x = 0 ∨ x + 1 = w ∨ y = 0 ∨ y + 1 = h)
def kN (w h x y : Nat) : Int32 := if kb w h x y then Int32.ofInt (bn w h x y) else -4
def bF (w h : Nat) : Nat → Int32
  | 0 => 0
  | c + 1 => bF w h c ||| sB (kN w h (c % w) (c / w))
theorem bF_all : ∀ w : Fin 5, ∀ h : Fin 5, bF (w.val + 3) (h.val + 3) ((w.val + 3) * (h.val + 3)) = ((1 : Int32) <<< (nI (2 * (w.val + 3 + (h.val + 3) - 2)) &&& 31)) - 1 := by decide +kernel
theorem bF_ok {w h : Nat} (hw : 3 ≤ w) (hw7 : w ≤ 7) (hh : 3 ≤ h) (hh7 : h ≤ 7) : bF w h (w * h) = ((1 : Int32) <<< (nI (2 * (w + h - 2)) &&& 31)) - 1 := by
  obtain ⟨a, rfl⟩ : ∃ a, w = a + 3 := ⟨w - 3, by omega⟩
  obtain ⟨c, rfl⟩ : ∃ c, h = c + 3 := ⟨h - 3, by omega⟩
  exact bF_all ⟨a, by omega⟩ ⟨c, by omega⟩
section CE
variable {n N : Int} {b u tl : Nat} {M : mm_M} {k tx : Nat → Int32} {pg : Nat → Nat → Int32}
theorem s377 (hC : Ci M b k u pg tl tx) {x3 x4 x5 x6 x7 x8 x9 x10 x11 x13 X Y W I B K E : Int32} (hW : 0 ≤ W.toInt ∧ W.toInt ≤ 99)
    (hI : (I = -4 ∧ B = -4) ∨ (0 ≤ I.toInt ∧ I.toInt ≤ 99 ∧ B.toInt = (W.toInt - I.toInt).natAbs ∧ ff_X6_nearest M b X Y = some (-4)))
    (hK : (K = -4 ∧ E = 0) ∨ (0 ≤ K.toInt ∧ K.toInt < 30 ∧ E = 1 ∧ K.toInt < (2 * hB k).toInt)) (hn : 0 ≤ (2 * hB k).toInt) :
    ff_L_sound_j377 M b (k 0) (k 1) x3 x4 x5 x6 x7 x8 x9 x10 x11 0 x13 X Y W I B K E = some (.inl (x8 + (if I = -4 then 0 else 1), x9 + (if I = -4 then 0 else B), (if B ≤ x10 then x10 else B), x11 ||| sB K, 0, x13 + 1)) := by
  have w1 : ¬ W < 0 := by rw [zz_lt, z0]; omega
  have w2 : ¬ (99 : Int32) < W := by rw [zz_lt, e99i]; omega
  have ho : (0 : Int32) ||| 0 = 0 := by decide
  -- behind the bits
  have t502 : ∀ a8 a9 a10 a11 : Int32, ff_L_sound_j502 M b (k 0) (k 1) x3 x4 x5 x6 x7 a8 a9 a10 a11 0 x13 X Y W I B K E E = some (.inl (a8, a9, a10, a11, 0, x13 + 1)) := by
    intro a8 a9 a10 a11
    have n4 : ¬ 2 * hB k ≤ K := by
      rw [zz_le]
      rcases hK with ⟨rfl, -⟩ | ⟨-, -, -, q⟩
      · rw [zm4]
        omega
      · omega
    simp only [ff_L_sound_j502, i_c hC, r_c2 hC, if_neg n4, Option.bind_some, if_true]
    rcases hI with ⟨rfl, rfl⟩ | ⟨i1, i2, i3, i4⟩
    · simp (decide := true) only [ff_L_sound_j547, ff_L_sound_j561, ff_L_sound_j583, if_true, if_false]
    · have i5 : I ≠ -4 := by rw [Ne, zz_e, zm4]; omega
      have t547 : ff_L_sound_j547 M b (k 0) (k 1) x3 x4 x5 x6 x7 a8 a9 a10 a11 0 x13 X Y I B = some (.inl (a8, a9, a10, a11, 0, x13 + 1)) := by
        simp (decide := true) only [ff_L_sound_j547, ff_L_sound_j561, ff_L_sound_j583, if_neg i5, i_c hC, i4, Option.bind_some, if_true, if_false]
      rw [if_neg i5]
      by_cases hle : I ≤ W
      · rw [if_pos hle]
        rw [zz_le] at hle
        simp only [ff_L_sound_j544, t547]
        rw [if_pos (by rw [zz_e, zz_s (by omega) (by omega)]; omega)]
      · rw [if_neg hle]
        rw [zz_le] at hle
        simp only [ff_L_sound_j544, t547]
        rw [if_pos (by rw [zz_e, zz_s (by omega) (by omega)]; omega)]
  -- the bits
  have t428 : ∀ a8 a9 a10 : Int32, ff_L_sound_j428 M b (k 0) (k 1) x3 x4 x5 x6 x7 a8 a9 x11 0 x13 X Y W I B K E a10 = some (.inl (a8, a9, a10, x11 ||| sB K, 0, x13 + 1)) := by
    intro a8 a9 a10
    have t := t502 a8 a9 a10 (x11 ||| sB K)
    unfold sB at t ⊢
    rcases hK with ⟨rfl, rfl⟩ | ⟨q1, q2, rfl, q3⟩
    · rw [if_pos (show (-4 : Int32) < 0 by decide)] at t ⊢
      simp (decide := true) only [ff_L_sound_j428, ff_L_sound_j451, ff_L_sound_j452, ff_L_sound_j475, if_neg w1, if_neg w2, ho, t, if_true, if_false]
    · have n1 : ¬ K < 0 := by rw [zz_lt, z0]; omega
      have n2 : ¬ (30 : Int32) ≤ K := by rw [zz_le, show (30 : Int32).toInt = 30 from rfl]; omega
      have n3 : K < 30 := by rw [zz_lt, show (30 : Int32).toInt = 30 from rfl]; omega
      rw [if_neg n1, if_neg n2] at t ⊢
      simp (decide := true) only [ff_L_sound_j428, ff_L_sound_j452, ff_L_sound_j475, if_neg w1, if_neg w2, if_neg n1, if_neg n2, if_pos n3, ho, t]
  have t411 : ∀ a8 y0 y1 : Int32, ff_L_sound_j411 M b (k 0) (k 1) x3 x4 x5 x6 x7 a8 x10 x11 0 x13 X Y W I B K E y0 y1 = some (.inl (a8, y1 + y0, (if B ≤ x10 then x10 else B), x11 ||| sB K, 0, x13 + 1)) := by
    intro a8 y0 y1
    simp only [ff_L_sound_j411, t428]
    split <;> rfl
  by_cases i5 : I = -4
  · rw [if_pos i5, if_pos i5]
    simp only [ff_L_sound_j377, ff_L_sound_j393, if_pos i5, t411]
  · rw [if_neg i5, if_neg i5]
    simp only [ff_L_sound_j377, ff_L_sound_j393, if_neg i5, t411]
/-- the law's sums over the cells, row by row -/
def dl (k : Nat → Int32) (w c : Nat) : Int32 := if lx k (nI (c % w)) (nI (c / w)) = -1 then 0 else 1
def dd (k : Nat → Int32) (w c : Nat) : Int32 := df k (nI (c % w)) (nI (c / w))
def bb (k : Nat → Int32) (w c : Nat) : Int32 := if lx k (nI (c % w)) (nI (c / w)) = -1 then -4 else df k (nI (c % w)) (nI (c / w))
def mo (k : Nat → Int32) (w : Nat) : Nat → Int32
  | 0 => -4
  | c + 1 => if bb k w c ≤ mo k w c then mo k w c else bb k w c
theorem df_i (hp : Rp k) (hl : Rl k) {x y : Int32} (hi : ins k x y) (h : lx k x y ≠ -1) : (df k x y).toInt = ((wn k x y).toInt - (lx k x y).toInt).natAbs := by
  have b1 := wn_r hp hl hi
  have b2 := lx_r hp hl hi
  have e : (wn k x y - lx k x y).toInt = (wn k x y).toInt - (lx k x y).toInt := zz_s (by omega) (by omega)
  unfold df
  rw [if_neg h, zz_ab (by rw [e]; omega), e]
theorem s_cell (hC : Ci M b k u pg tl tx) (hI : IP 2000 k) {w h : Nat} (ew : (k 0).toInt = w) (eh : (k 1).toInt = h) (h7 : w ≤ 7 ∧ h ≤ 7) (x3 x4 x5 x6 x7 : Int32) {c : Nat} (hc : c < w * h) :
    ff_L_sound_l282 M b (k 0) (k 1) x3 x4 x5 x6 x7 (su (dl k w) c) (su (dd k w) c) (mo k w c) (bF w h c) 0 (nI c) = some (.inl (su (dl k w) (c + 1), su (dd k w) (c + 1), mo k w (c + 1), bF w h (c + 1), 0, nI (c + 1))) := by
  have hp := hI.1
  have hp' := hp
  unfold Rp at hp'
  obtain ⟨cx, cy, cc⟩ := cdiv (w := w) (c := c) (r := h) (by omega) hc
  have p1 : (0 : Int) ≤ ((c / w : Nat) : Int) := Int.natCast_nonneg _
  have hlt : w * h ≤ 7 * 7 := Nat.mul_le_mul h7.1 h7.2
  have ec := zz_nI c (by omega)
  have ex := zz_nI (c % w) (by omega)
  have ey := zz_nI (c / w) (by omega)
  have emul : (k 0 * k 1).toInt = ((w * h : Nat) : Int) := by
    have e1 : (k 0).toInt * (k 1).toInt = ((w * h : Nat) : Int) := by rw [ew, eh]; simp
    rw [zz_m (by rw [e1]; omega) (by rw [e1]; omega), e1]
  have hi : ins k (nI (c % w)) (nI (c / w)) := by unfold ins; omega
  have erm : mm_rm (nI c) (k 0) = some (nI (c % w)) := by
    rw [zz_rm (by omega)]
    congr 1
    rw [zz_e, zz_rem (by omega) (by omega), ec, ew, ex]
    simp
  have edv : mm_dv (nI c) (k 0) = some (nI (c / w)) := by
    rw [zz_dv (by omega)]
    congr 1
    rw [zz_e, zz_div (by omega) (by omega), ec, ew, ey]
    simp
  have c0 := r_cell0 hC hp hi
  have c1 := r_cell1 hC hp hi
  have c2 := r_cell2 hC hp hi
  have hw := wn_r hp hI.2.1 hi
  have hlr := lx_r hp hI.2.1 hi
  have nr := r_near hC hI hi
  have hn2 := hB_2 hp
  -- the number in the border
  obtain ⟨E, E1, E2⟩ : ∃ E : Int32, ff_X6_cell M b (nI (c % w)) (nI (c / w)) 3 = some (kN w h (c % w) (c / w)) ∧ ((kN w h (c % w) (c / w) = -4 ∧ E = 0 ∧ ¬ (c % w = 0 ∨ c % w + 1 = w ∨ c / w = 0 ∨ c / w + 1 = h)) ∨ (0 ≤ (kN w h (c % w) (c / w)).toInt ∧ (kN w h (c % w) (c / w)).toInt < 30 ∧ E = 1 ∧ (kN w h (c % w) (c / w)).toInt < (2 * hB k).toInt ∧ (c % w = 0 ∨ c % w + 1 = w ∨ c / w = 0 ∨ c / w + 1 = h))) := by
    by_cases hb : c % w = 0 ∨ c % w + 1 = w ∨ c / w = 0 ∨ c / w + 1 = h
    · have hbo : bor k (nI (c % w)) (nI (c / w)) := by unfold bor; omega
      obtain ⟨r, r1, r2⟩ := r_cell3 hC hp hi hbo
      have e : kN w h (c % w) (c / w) = r := by
        unfold kN kb
        rw [if_pos (by simpa using hb)]
        rw [ew, eh, ex, ey] at r2
        rw [← r2, Int32.ofInt_toInt]
      have b1 := bn_r (w := w) (h := h) (x := ((c % w : Nat) : Int)) (y := ((c / w : Nat) : Int)) (by omega) (by omega) (by omega) (by omega) (by omega) (by omega)
      have b2 := bn_r2 (w := w) (h := h) (x := ((c % w : Nat) : Int)) (y := ((c / w : Nat) : Int)) (by omega) (by omega) (by omega) (by omega) (by omega) (by omega)
      rw [ew, eh, ex, ey] at r2
      exact ⟨1, by rw [e]; exact r1, Or.inr ⟨by rw [e]; omega, by rw [e]; omega, rfl, by rw [e]; omega, hb⟩⟩
    · have hbo : ¬ bor k (nI (c % w)) (nI (c / w)) := by unfold bor; omega
      have e : kN w h (c % w) (c / w) = -4 := by
        unfold kN kb
        rw [if_neg (by simpa using hb)]
      exact ⟨0, by rw [e]; exact r_cell3n hC hp hi hbo, Or.inl ⟨e, rfl, hb⟩⟩
  have ek0 : (k 0 - 1).toInt = (w : Int) - 1 := by rw [zz_s (by rw [z1]; omega) (by rw [z1]; omega), z1, ew]
  have ek1 : (k 1 - 1).toInt = (h : Int) - 1 := by rw [zz_s (by rw [z1]; omega) (by rw [z1]; omega), z1, eh]
  -- the last step
  have s := s377 hC (x3 := x3) (x4 := x4) (x5 := x5) (x6 := x6) (x7 := x7) (x8 := su (dl k w) c) (x9 := su (dd k w) c) (x10 := mo k w c) (x11 := bF w h c) (x13 := nI c) (X := nI (c % w)) (Y := nI (c / w)) (W := wn k (nI (c % w)) (nI (c / w))) (I := if lx k (nI (c % w)) (nI (c / w)) = -1 then -4 else lx k (nI (c % w)) (nI (c / w))) (B := bb k w c) (K := kN w h (c % w) (c / w)) (E := E) hw (by
      unfold bb
      by_cases hl : lx k (nI (c % w)) (nI (c / w)) = -1
      · left
        rw [if_pos hl, if_pos hl]
        exact ⟨rfl, rfl⟩
      · right
        rw [if_neg hl, if_neg hl]
        rw [if_neg hl] at nr
        have hl0 := hl
        rw [zz_e, zm1] at hl0
        exact ⟨by omega, by omega, df_i hp hI.2.1 hi hl, nr⟩) (by
      rcases E2 with ⟨q1, q2, -⟩ | ⟨q1, q2, q3, q4, -⟩
      · exact Or.inl ⟨q1, q2⟩
      · exact Or.inr ⟨q1, q2, q3, q4⟩) (by omega)
  have e1 : su (dl k w) c + (if (if lx k (nI (c % w)) (nI (c / w)) = -1 then (-4 : Int32) else lx k (nI (c % w)) (nI (c / w))) = -4 then 0 else 1) = su (dl k w) (c + 1) := by
    show _ = su (dl k w) c + dl k w c
    unfold dl
    by_cases hl : lx k (nI (c % w)) (nI (c / w)) = -1
    · rw [if_pos hl, if_pos rfl, if_pos hl]
    · rw [if_neg hl, if_neg hl, if_neg (by rw [zz_e, zm4]; omega)]
  have e2 : su (dd k w) c + (if (if lx k (nI (c % w)) (nI (c / w)) = -1 then (-4 : Int32) else lx k (nI (c % w)) (nI (c / w))) = -4 then 0 else bb k w c) = su (dd k w) (c + 1) := by
    show _ = su (dd k w) c + dd k w c
    unfold dd bb
    by_cases hl : lx k (nI (c % w)) (nI (c / w)) = -1
    · rw [if_pos hl, if_pos rfl]
      unfold df
      rw [if_pos hl]
    · rw [if_neg hl, if_neg hl, if_neg (by rw [zz_e, zm4]; omega)]
  rw [e1, e2, nI_1] at s
  simp only [ff_L_sound_l282, erm, edv, i_c hC, c0, c1, c2, E1, Option.bind_some]
  rw [if_neg (by rw [zz_le, emul, ec]; omega)]
  have hbb : (if lx k (nI (c % w)) (nI (c / w)) = -1 then (-4 : Int32) else df k (nI (c % w)) (nI (c / w))) = bb k w c := rfl
  rw [hbb]
  have f372 : (c % w = 0 ∨ c % w + 1 = w ∨ c / w = 0 ∨ c / w + 1 = h) → E = 1 := fun q => by
    rcases E2 with ⟨-, -, q3⟩ | ⟨-, -, q3, -⟩
    · exact absurd q q3
    · exact q3
  by_cases b1 : nI (c % w) = 0
  · rw [if_pos b1]
    rw [zz_e, ex, z0] at b1
    rw [f372 (by omega)] at s
    exact s
  · rw [if_neg b1]
    rw [zz_e, ex, z0] at b1
    by_cases b2 : nI (c / w) = 0
    · rw [if_pos b2]
      rw [zz_e, ey, z0] at b2
      rw [f372 (by omega)] at s
      exact s
    · rw [if_neg b2]
      rw [zz_e, ey, z0] at b2
      by_cases b3 : nI (c % w) = k 0 - 1
      · rw [if_pos b3]
        rw [zz_e, ex, ek0] at b3
        rw [f372 (by omega)] at s
        exact s
      · rw [if_neg b3]
        rw [zz_e, ex, ek0] at b3
        by_cases b4 : nI (c / w) = k 1 - 1
        · rw [if_pos b4]
          rw [zz_e, ey, ek1] at b4
          rw [f372 (by omega)] at s
          exact s
        · rw [if_neg b4]
          rw [zz_e, ey, ek1] at b4
          have hE : E = 0 := by
            rcases E2 with ⟨-, q3, -⟩ | ⟨-, -, -, -, q3⟩
            · exact q3
            · omega
          rw [hE] at s
          exact s
theorem l_so3 (hC : Ci M b k u pg tl tx) (hI : IP 2000 k) {w h : Nat} (ew : (k 0).toInt = w) (eh : (k 1).toInt = h) (h7 : w ≤ 7 ∧ h ≤ 7) (x3 x4 x5 x6 x7 : Int32) :
    mm_it (mm_u6 (ff_L_sound_l282 M b (k 0) (k 1) x3 x4 x5 x6 x7)) mm_fu ((0 : Int32), (0 : Int32), (-4 : Int32), (0 : Int32), (0 : Int32), (0 : Int32)) = some (.inl (su (dl k w) (w * h), su (dd k w) (w * h), mo k w (w * h), bF w h (w * h), 0, nI (w * h))) := by
  have hlt : w * h ≤ 7 * 7 := Nat.mul_le_mul h7.1 h7.2
  refine it_for (body := mm_u6 (ff_L_sound_l282 M b (k 0) (k 1) x3 x4 x5 x6 x7)) (fun c => (su (dl k w) c, su (dd k w) c, mo k w c, bF w h c, 0, nI c)) (w * h) _ (fun c hc => ?_) ?_ mm_fu (mm_fu_gt (by omega))
  · exact s_cell hC hI ew eh h7 x3 x4 x5 x6 x7 hc
  · have ec := zz_nI (w * h) (by omega)
    have hp' := hI.1
    unfold Rp at hp'
    have emul : (k 0 * k 1).toInt = ((w * h : Nat) : Int) := by
      have e1 : (k 0).toInt * (k 1).toInt = ((w * h : Nat) : Int) := by rw [ew, eh]; simp
      rw [zz_m (by rw [e1]; omega) (by rw [e1]; omega), e1]
    show ff_L_sound_l282 M b (k 0) (k 1) x3 x4 x5 x6 x7 _ _ _ _ _ (nI (w * h)) = _
    simp only [ff_L_sound_l282]
    rw [if_pos (by rw [zz_le, emul, ec]; omega)]
end CE
