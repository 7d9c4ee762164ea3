/-! the law's sound: accounts and strips -/
section SO
variable {n N : Int} {b u tl : Nat} {M : mm_M} {k tx : Nat → Int32} {pg : Nat → Nat → Int32}
/-- the six accounts behind the first -/
def cc (k : Nat → Int32) : Nat → Int32
  | 0 => su (fun i => k (408 + 11 * i) - k (410 + 11 * i)) 10
  | 1 => su (fun s => k (308 + s)) 100 * k 2
  | 2 => lc k * k 2
  | 3 => k 9
  | 4 => k 10
  | _ => k 11
theorem cc_c (hC : Ci M b k u pg tl tx) {t : Nat} (ht : t < 6) : ff_X6_count M b (nI (21 + t)) = some (cc k t) := by
  have hh : t = 0 ∨ t = 1 ∨ t = 2 ∨ t = 3 ∨ t = 4 ∨ t = 5 := by omega
  rcases hh with rfl | rfl | rfl | rfl | rfl | rfl
  · exact r_c21 hC
  · exact r_c22 hC
  · exact r_c23 hC
  · exact r_c24 hC
  · exact r_c25 hC
  · exact r_c26 hC
theorem left_i (hr : Rs k) : (su (fun i => k (408 + 11 * i) - k (410 + 11 * i)) 10).toInt = (su (fun i => k (408 + 11 * i)) 10).toInt - aR k ∧ 0 ≤ (su (fun i => k (408 + 11 * i) - k (410 + 11 * i)) 10).toInt ∧ 0 ≤ (su (fun i => k (408 + 11 * i)) 10).toInt ∧ (su (fun i => k (408 + 11 * i)) 10).toInt ≤ 10000 := by
  have hs : ∀ i, i < 10 → (k (408 + 11 * i) - k (410 + 11 * i)).toInt = (k (408 + 11 * i)).toInt - (k (410 + 11 * i)).toInt := fun i hi => by
    have := hr.2.2.2 i hi
    exact zz_s (by omega) (by omega)
  have e1 := su_ti (f := fun i => k (408 + 11 * i) - k (410 + 11 * i)) (B := 1000) (n := 10) (fun i hi => by
    have := hr.2.2.2 i hi
    show 0 ≤ (k (408 + 11 * i) - k (410 + 11 * i)).toInt ∧ (k (408 + 11 * i) - k (410 + 11 * i)).toInt ≤ ((1000 : Nat) : Int)
    rw [hs i hi]
    omega) (by omega)
  have e2 := su_ti (f := fun i => k (408 + 11 * i)) (B := 1000) (n := 10) (fun i hi => by
    have := hr.2.2.2 i hi
    show 0 ≤ (k (408 + 11 * i)).toInt ∧ (k (408 + 11 * i)).toInt ≤ ((1000 : Nat) : Int)
    omega) (by omega)
  have b2 := ti_bd (f := fun i => (k (408 + 11 * i)).toInt) (B := 1000) (n := 10) (fun i hi => by
    have := hr.2.2.2 i hi
    show 0 ≤ (k (408 + 11 * i)).toInt ∧ (k (408 + 11 * i)).toInt ≤ 1000
    omega)
  have b1 := ti_nn (f := fun i => (k (408 + 11 * i) - k (410 + 11 * i)).toInt) (n := 10) (fun i hi => by
    have := hr.2.2.2 i hi
    show 0 ≤ (k (408 + 11 * i) - k (410 + 11 * i)).toInt
    rw [hs i hi]
    omega)
  have e3 : ti (fun i => (k (408 + 11 * i) - k (410 + 11 * i)).toInt) 10 = ti (fun i => (k (408 + 11 * i)).toInt) 10 - aR k := by
    have : ∀ m, m ≤ 10 → ti (fun i => (k (408 + 11 * i) - k (410 + 11 * i)).toInt) m = ti (fun i => (k (408 + 11 * i)).toInt) m - ti (fun i => (k (410 + 11 * i)).toInt) m := by
      intro m
      induction m with
      | zero => intro _; rfl
      | succ m ih =>
        intro hm
        show ti (fun i => (k (408 + 11 * i) - k (410 + 11 * i)).toInt) m + (k (408 + 11 * m) - k (410 + 11 * m)).toInt = ti (fun i => (k (408 + 11 * i)).toInt) m + (k (408 + 11 * m)).toInt - (ti (fun i => (k (410 + 11 * i)).toInt) m + (k (410 + 11 * m)).toInt)
        rw [ih (by omega), hs m (by omega)]
        omega
    exact this 10 (Nat.le_refl 10)
  rw [e1, e2]
  omega
theorem cc_v (hI : IP 2000 k) (hA : AG 0 k) : (∀ t, t < 6 → 0 ≤ (cc k t).toInt ∧ (cc k t).toInt ≤ 10000) ∧ (su (cc k) 6).toInt = (su (fun i => k (408 + 11 * i)) 10).toInt := by
  obtain ⟨l1, l2, l3, l4⟩ := left_i hI.2.2.1
  obtain ⟨d1, d2, d3, d4, d5, d6, d7⟩ := AG_bd hA (Int.le_refl 0) hI.2.2.1 hI.2.2.2
  obtain ⟨a1, a2, a3, a4⟩ := hA
  have eh := aH_i hI.2.2.2
  have el : (lc k).toInt = aL k := lc_i
  have nL : 0 ≤ aL k := aL_n
  have bL : aL k ≤ 144 := aL_b
  have r2 := hI.2.2.1.1
  rw [Int.add_zero] at a1 d1 d2
  rw [Int.add_mul] at a1 d1 d2
  have m1 : 0 ≤ aH k * (k 2).toInt := Int.mul_nonneg d6 (by omega)
  have m2 : 0 ≤ aL k * (k 2).toInt := Int.mul_nonneg nL (by omega)
  have c1 : (cc k 1).toInt = aH k * (k 2).toInt := by
    show (su (fun s => k (308 + s)) 100 * k 2).toInt = _
    rw [zz_m (by rw [eh]; omega) (by rw [eh]; omega), eh]
  have c2 : (cc k 2).toInt = aL k * (k 2).toInt := by
    show (lc k * k 2).toInt = _
    rw [zz_m (by rw [el]; omega) (by rw [el]; omega), el]
  have c0 : (cc k 0).toInt = (su (fun i => k (408 + 11 * i)) 10).toInt - aR k := l1
  have c3 : cc k 3 = k 9 := rfl
  have c4 : cc k 4 = k 10 := rfl
  have c5 : cc k 5 = k 11 := rfl
  have bd : ∀ t, t < 6 → 0 ≤ (cc k t).toInt ∧ (cc k t).toInt ≤ 10000 := by
    intro t ht
    have hh : t = 0 ∨ t = 1 ∨ t = 2 ∨ t = 3 ∨ t = 4 ∨ t = 5 := by omega
    rcases hh with rfl | rfl | rfl | rfl | rfl | rfl
    · have : (cc k 0).toInt = (su (fun i => k (408 + 11 * i) - k (410 + 11 * i)) 10).toInt := rfl
      omega
    · omega
    · omega
    · rw [c3]; omega
    · rw [c4]; omega
    · rw [c5]; omega
  refine ⟨bd, ?_⟩
  rw [su_ti (f := cc k) (B := 10000) (n := 6) (fun t ht => bd t ht) (by omega)]
  show 0 + (cc k 0).toInt + (cc k 1).toInt + (cc k 2).toInt + (cc k 3).toInt + (cc k 4).toInt + (cc k 5).toInt = _
  rw [c0, c1, c2, c3, c4, c5]
  omega
theorem l_so1 (hC : Ci M b k u pg tl tx) (hI : IP 2000 k) (hA : AG 0 k) (x1 x2 x3 x5 x6 x7 : Int32) : mm_it (mm_u2 (ff_L_sound_l35 M b x1 x2 x3 x5 x6 x7)) mm_fu ((0 : Int32), (21 : Int32)) = some (.inl (su (cc k) 6, nI 27)) := by
  have bd := (cc_v hI hA).1
  refine it_for (body := mm_u2 (ff_L_sound_l35 M b x1 x2 x3 x5 x6 x7)) (fun t => (su (cc k) t, nI (21 + t))) 6 _ (fun t ht => ?_) ?_ mm_fu (mm_fu_gt (by omega))
  · have et := zz_nI (21 + t) (by omega)
    have ec := cc_c hC ht
    show ff_L_sound_l35 M b x1 x2 x3 x5 x6 x7 (su (cc k) t) (nI (21 + t)) = _
    simp only [ff_L_sound_l35, i_c hC, ec, Option.bind_some]
    rw [if_neg (by rw [zz_le, et, show (27 : Int32).toInt = 27 from rfl]; omega), if_pos (by rw [zz_le, z0]; exact (bd t ht).1), nI_1]
    rfl
  · show ff_L_sound_l35 M b x1 x2 x3 x5 x6 x7 (su (cc k) 6) (nI 27) = _
    simp only [ff_L_sound_l35]
    rw [if_pos (by decide)]
/-- what holds of a strip -/
theorem s_facts (hr : Rs k) {i : Nat} (hi : i < 10) : ga k i ≤ ta k i ∧ (ta k i : Int) * (k 2).toInt ≤ (k (408 + 11 * i)).toInt - (k (410 + 11 * i)).toInt ∧ (ta k i : Int) - ga k i ≤ (k (411 + 11 * i)).toInt ∧ (0 < ta k i ↔ (k 2).toInt ≤ (k (408 + 11 * i)).toInt - (k (410 + 11 * i)).toInt) := by
  have hs := hr.2.2.2 i hi
  have r1 := hr.1
  have r2 := hr.2.1
  refine ⟨cn_le _ _, ?_, ?_, ?_⟩
  · by_cases h0 : ta k i = 0
    · rw [h0]
      have : ((0 : Nat) : Int) * (k 2).toInt = 0 := by simp
      omega
    · obtain ⟨t, et⟩ : ∃ t, ta k i = t + 1 := ⟨ta k i - 1, by omega⟩
      have := (ta_iff hr (i := i) t).mp (by omega)
      unfold tp at this
      have e1 : (t : Int) * (k 2).toInt ≤ t * ((k 2).toInt + (k 3).toInt) := Int.mul_le_mul_of_nonneg_left (by omega) (by omega)
      rw [et, Int.natCast_add, Int.add_mul]
      have e2 : ((1 : Nat) : Int) * (k 2).toInt = (k 2).toInt := by simp
      omega
  · have h1 := cn_not (tg k i) (ta k i)
    have e : (fun t => !tg k i t) = fun t : Nat => (List.range (k (411 + 11 * i)).toInt.toNat).any fun j => decide ((k (410 + 11 * i)).toInt + t * ((k 2).toInt + (k 3).toInt) ≤ (k (413 + 11 * i + j)).toInt ∧ (k (413 + 11 * i + j)).toInt < (k (410 + 11 * i)).toInt + t * ((k 2).toInt + (k 3).toInt) + (k 2).toInt) := by
      funext t
      unfold tg
      rw [Bool.not_not]
      rfl
    have h2 := cn_marks (fun j => (k (413 + 11 * i + j)).toInt) (k (410 + 11 * i)).toInt (k 2).toInt ((k 2).toInt + (k 3).toInt) (by omega) (by omega) (ta k i) (k (411 + 11 * i)).toInt.toNat
    rw [← e] at h2
    unfold ga
    omega
  · have := ta_iff hr (i := i) 0
    have e0 : tp k i 0 = (k (410 + 11 * i)).toInt := by unfold tp; simp
    rw [e0] at this
    constructor <;> intro q
    · have := this.mp q; omega
    · exact this.mpr (by omega)
theorem l_so2 (hC : Ci M b k u pg tl tx) (hI : IP 2000 k) (x1 x2 x4 : Int32) : mm_it (mm_u4 (ff_L_sound_l73 M b x1 x2 (k 2) x4)) mm_fu ((0 : Int32), (0 : Int32), (0 : Int32), (0 : Int32)) = some (.inl (su (fun i => k (408 + 11 * i)) (k 6).toInt.toNat, su (fun i => k (408 + 11 * i) - k (410 + 11 * i)) (k 6).toInt.toNat, su (fun i => k (412 + 11 * i)) (k 6).toInt.toNat, nI (k 6).toInt.toNat)) := by
  have hr := hI.2.2.1
  have h6 := hr.2.2.1
  refine it_for (body := mm_u4 (ff_L_sound_l73 M b x1 x2 (k 2) x4)) (fun t => (su (fun i => k (408 + 11 * i)) t, su (fun i => k (408 + 11 * i) - k (410 + 11 * i)) t, su (fun i => k (412 + 11 * i)) t, nI t)) (k 6).toInt.toNat _ (fun t ht => ?_) ?_ mm_fu (mm_fu_gt (by omega))
  · have et := zz_nI t (by omega)
    have hs := hr.2.2.2 t (by omega)
    obtain ⟨s0, -, s2, s3, s4, s5, s6⟩ := r_sx hC hr (i := t) (by omega)
    obtain ⟨f1, f2, f3, f4⟩ := s_facts hr (i := t) (by omega)
    have hta := ta_le hr (i := t) (by omega)
    have eta := zz_nI (ta k t) (by omega)
    have ega := zz_nI (ga k t) (by omega)
    have r2 := hr.1
    have eleft : (k (408 + 11 * t) - k (410 + 11 * t)).toInt = (k (408 + 11 * t)).toInt - (k (410 + 11 * t)).toInt := zz_s (by omega) (by omega)
    have m0 : 0 ≤ (ta k t : Int) * (k 2).toInt := Int.mul_nonneg (by omega) (by omega)
    have emul : (nI (ta k t) * k 2).toInt = (ta k t : Int) * (k 2).toInt := by rw [zz_m (by rw [eta]; omega) (by rw [eta]; omega), eta]
    have esub : (nI (ta k t) - nI (ga k t)).toInt = (ta k t : Int) - ga k t := by rw [zz_s (by omega) (by omega), eta, ega]
    show ff_L_sound_l73 M b x1 x2 (k 2) x4 _ _ _ (nI t) = _
    simp only [ff_L_sound_l73, i_c hC, r_c9 hC, s0, s2, s3, s4, s5, s6, Option.bind_some]
    rw [if_neg (by rw [zz_le, et]; omega), if_neg (by rw [zz_lt, eta, ega]; omega), if_neg (by rw [zz_lt, z0, eleft]; omega), if_neg (by rw [zz_lt, eleft]; omega), if_neg (by rw [zz_lt, show (6 : Int32).toInt = 6 from rfl]; omega), if_neg (by rw [zz_lt, eleft, emul]; omega), if_neg (by rw [zz_lt, esub]; omega)]
    by_cases h0 : 0 < ta k t
    · rw [if_neg (by rw [zz_le, eta, z0]; omega)]
      simp only [ff_L_sound_j236, ff_L_sound_j252, i_c hC, s2, Option.bind_some]
      rw [if_neg (by rw [zz_lt, eleft]; have := f4.mp h0; omega), if_pos trivial, nI_1]
      rfl
    · rw [if_pos (by rw [zz_le, eta, z0]; omega)]
      simp only [ff_L_sound_j236, ff_L_sound_j252, i_c hC, s2, Option.bind_some]
      rw [if_pos (by rw [zz_lt, eleft]; exact Int.not_le.mp (fun q => h0 (f4.mpr q))), if_pos trivial, nI_1]
      rfl
  · have et := zz_nI (k 6).toInt.toNat (by omega)
    show ff_L_sound_l73 M b x1 x2 (k 2) x4 _ _ _ (nI (k 6).toInt.toNat) = _
    simp only [ff_L_sound_l73, i_c hC, r_c9 hC, Option.bind_some]
    rw [if_pos (by rw [zz_le, et]; omega)]
theorem so_len (hr : Rs k) : su (fun i => k (408 + 11 * i)) (k 6).toInt.toNat = su (fun i => k (408 + 11 * i)) 10 ∧ su (fun i => k (408 + 11 * i) - k (410 + 11 * i)) (k 6).toInt.toNat = su (fun i => k (408 + 11 * i) - k (410 + 11 * i)) 10 := by
  have h6 := hr.2.2.1
  have hz : ∀ i, (k 6).toInt.toNat ≤ i → i < 10 → k (408 + 11 * i) = 0 ∧ k (410 + 11 * i) = 0 := by
    intro i h1 h2
    have hs := hr.2.2.2 i h2
    have := hs.2.2.2.2 (by omega)
    rw [zz_e, zz_e, z0]
    omega
  constructor
  · exact (su_cut (by omega) (fun i h1 h2 => (hz i h1 h2).1)).symm
  · exact (su_cut (f := fun i => k (408 + 11 * i) - k (410 + 11 * i)) (by omega) (fun i h1 h2 => by show k (408 + 11 * i) - k (410 + 11 * i) = 0; rw [(hz i h1 h2).1, (hz i h1 h2).2]; rfl)).symm
theorem so_good (hr : Rs k) (hG : GC k) : (su (fun i => k (412 + 11 * i)) (k 6).toInt.toNat).toInt ≤ (su (fun i => k (408 + 11 * i)) (k 6).toInt.toNat).toInt := by
  have h6 := hr.2.2.1
  rw [su_ti (f := fun i => k (412 + 11 * i)) (B := 1000) (fun i hi => by
    have h1 := hr.2.2.2 i (by omega)
    have h2 := hG i (by omega)
    show 0 ≤ (k (412 + 11 * i)).toInt ∧ (k (412 + 11 * i)).toInt ≤ ((1000 : Nat) : Int)
    omega) (by omega), su_ti (f := fun i => k (408 + 11 * i)) (B := 1000) (fun i hi => by
    have h1 := hr.2.2.2 i (by omega)
    show 0 ≤ (k (408 + 11 * i)).toInt ∧ (k (408 + 11 * i)).toInt ≤ ((1000 : Nat) : Int)
    omega) (by omega)]
  refine ti_le (fun i hi => ?_)
  have h1 := hr.2.2.2 i (by omega)
  have h2 := hG i (by omega)
  show (k (412 + 11 * i)).toInt ≤ (k (408 + 11 * i)).toInt
  omega
end SO
