/-! cutting until a good one comes; laying a cell -/
def pcs (k : Nat → Int32) (i : Nat) : Nat → Nat → Int32
  | 0 => k
  | n + 1 => pc (pcs k i n) i
theorem pc_n {k : Nat → Int32} {i j : Nat} (h1 : j ≠ 410 + 11 * i) (h2 : j ≠ 412 + 11 * i) (h3 : j ≠ 10) (h4 : j ≠ 8) (h5 : j ≠ 9) : pc k i j = k j := by
  unfold pc
  split
  · rw [upd_n h3, upd_n h2, upd_n h1]
  · rw [upd_n h5, upd_n h4, upd_n h3, upd_n h1]
theorem pc_b {k : Nat → Int32} {i : Nat} : pc k i (410 + 11 * i) = ps' k i := by
  unfold pc
  split
  · rw [upd_n (by omega), upd_n (by omega), upd_s]
  · rw [upd_n (by omega), upd_n (by omega), upd_n (by omega), upd_s]
theorem pcs_n {k : Nat → Int32} {i j : Nat} (h1 : j ≠ 410 + 11 * i) (h2 : j ≠ 412 + 11 * i) (h3 : j ≠ 10) (h4 : j ≠ 8) (h5 : j ≠ 9) : ∀ n, pcs k i n j = k j
  | 0 => rfl
  | n + 1 => by
    show pc (pcs k i n) i j = k j
    rw [pc_n h1 h2 h3 h4 h5, pcs_n h1 h2 h3 h4 h5 n]
/-- two pages on which strip i is cut alike -/
theorem hf_congr {k k' : Nat → Int32} {i : Nat} {a b : Int} (h1 : k' (411 + 11 * i) = k (411 + 11 * i)) (h2 : ∀ j, j < (k (411 + 11 * i)).toInt.toNat → k' (413 + 11 * i + j) = k (413 + 11 * i + j)) : hf k' i a b = hf k i a b := by
  apply Bool.eq_iff_iff.mpr
  rw [hf_1, hf_1, h1]
  constructor
  · rintro ⟨j, h3, h4⟩
    rw [h2 j h3] at h4
    exact ⟨j, h3, h4⟩
  · rintro ⟨j, h3, h4⟩
    rw [← h2 j h3] at h4
    exact ⟨j, h3, h4⟩
theorem pcs_b {k : Nat → Int32} (hr : Rs k) {i : Nat} (hi : i < 10) : ∀ n, n ≤ ta k i → (pcs k i n (410 + 11 * i)).toInt = min (tp k i n) (k (408 + 11 * i)).toInt ∧ Rs (pcs k i n)
  | 0, _ => by
    have hs := hr.2.2.2 i hi
    refine ⟨?_, hr⟩
    show (k (410 + 11 * i)).toInt = _
    unfold tp
    simp
    omega
  | n + 1, hn => by
    obtain ⟨h1, h2⟩ := pcs_b hr hi n (by omega)
    have hlt := (ta_iff hr (i := i) n).mp (by omega)
    have hs := hr.2.2.2 i hi
    obtain ⟨t1, t2, t3⟩ := tp_r hr hi (t := n) (by omega)
    have q2 : pcs k i n 2 = k 2 := pcs_n (by omega) (by omega) (by omega) (by omega) (by omega) n
    have q3 : pcs k i n 3 = k 3 := pcs_n (by omega) (by omega) (by omega) (by omega) (by omega) n
    have q8 : pcs k i n (408 + 11 * i) = k (408 + 11 * i) := pcs_n (by omega) (by omega) (by omega) (by omega) (by omega) n
    have hr2 := hr.1
    have hr3 := hr.2.1
    have eb : (pcs k i (n + 1) (410 + 11 * i)).toInt = min (tp k i (n + 1)) (k (408 + 11 * i)).toInt := by
      show (pc (pcs k i n) i (410 + 11 * i)).toInt = _
      rw [pc_b]
      unfold ps'
      rw [zz_mn, q2, q3, q8]
      have a1 : (pcs k i n (410 + 11 * i) + k 2).toInt = (pcs k i n (410 + 11 * i)).toInt + (k 2).toInt := zz_a (by omega) (by omega)
      have a2 : (pcs k i n (410 + 11 * i) + k 2 + k 3).toInt = (pcs k i n (410 + 11 * i)).toInt + (k 2).toInt + (k 3).toInt := by rw [zz_a (by omega) (by omega), a1]
      rw [a2, h1, tp_s]
      omega
    refine ⟨eb, ?_⟩
    have w : ∀ j, j ≠ 410 + 11 * i → j ≠ 412 + 11 * i → j ≠ 10 → j ≠ 8 → j ≠ 9 → pcs k i (n + 1) j = k j := fun j a b c d e => pcs_n a b c d e (n + 1)
    refine ⟨by rw [w 2 (by omega) (by omega) (by omega) (by omega) (by omega)]; exact hr.1, by rw [w 3 (by omega) (by omega) (by omega) (by omega) (by omega)]; exact hr.2.1, by rw [w 6 (by omega) (by omega) (by omega) (by omega) (by omega)]; exact hr.2.2.1, fun q hq => ?_⟩
    have hsq := hr.2.2.2 q hq
    rw [w (408 + 11 * q) (by omega) (by omega) (by omega) (by omega) (by omega), w (409 + 11 * q) (by omega) (by omega) (by omega) (by omega) (by omega), w (411 + 11 * q) (by omega) (by omega) (by omega) (by omega) (by omega), w 6 (by omega) (by omega) (by omega) (by omega) (by omega)]
    refine ⟨hsq.1, hsq.2.1, ?_, hsq.2.2.2⟩
    by_cases hqi : q = i
    · subst hqi
      rw [eb]
      have := (tp_r hr hi (t := n + 1) hn).1
      omega
    · rw [w (410 + 11 * q) (by omega) (by omega) (by omega) (by omega) (by omega)]
      exact hsq.2.2.1
theorem pcs_t {k : Nat → Int32} (hr : Rs k) {i : Nat} (hi : i < 10) {n : Nat} (hn : n < ta k i) : 0 < ta (pcs k i n) i ∧ tg (pcs k i n) i 0 = tg k i n := by
  obtain ⟨h1, h2⟩ := pcs_b hr hi n (by omega)
  have hlt := (ta_iff hr (i := i) n).mp hn
  have hr2 := hr.1
  have q2 : pcs k i n 2 = k 2 := pcs_n (by omega) (by omega) (by omega) (by omega) (by omega) n
  have q8 : pcs k i n (408 + 11 * i) = k (408 + 11 * i) := pcs_n (by omega) (by omega) (by omega) (by omega) (by omega) n
  have e0 : tp (pcs k i n) i 0 = tp k i n := by
    have : tp (pcs k i n) i 0 = (pcs k i n (410 + 11 * i)).toInt := by unfold tp; simp
    rw [this, h1]
    omega
  refine ⟨(ta_iff h2 (i := i) 0).mpr (by rw [e0, q2, q8]; exact hlt), ?_⟩
  unfold tg
  rw [e0, q2, hf_congr (k := k) (pcs_n (by omega) (by omega) (by omega) (by omega) (by omega) n) (fun j hj => pcs_n (by have := hr.2.2.2 i hi; omega) (by have := hr.2.2.2 i hi; omega) (by omega) (by omega) (by omega) n)]
/-- the page when a tessera of shade s has been brought and taken -/
def pB (k : Nat → Int32) (s : Int32) : Nat → Int32 := if 0 < (k (308 + s.toInt.toNat)).toInt then upd k (308 + s.toInt.toNat) (k (308 + s.toInt.toNat) - 1) else pcs k (fi (gv k s) 10) (fi (tg k (fi (gv k s) 10)) (ta k (fi (gv k s) 10)) + 1)
section BR
variable {M : mm_M} {z : Nat} {k : Nat → Int32}
theorem av_gv {s : Int32} (h0 : 0 ≤ s.toInt) (h : av k s.toInt.toNat) (hn : ¬ 0 < (k (308 + s.toInt.toNat)).toInt) : ∃ i, i < 10 ∧ gv k s i = true := by
  rcases h with ⟨-, h⟩ | ⟨q, h1, h2, h3⟩
  · exact absurd h hn
  · refine ⟨q, h1, ?_⟩
    simp only [gv, decide_eq_true_eq]
    exact ⟨by rw [zz_e, h2]; omega, h3⟩
theorem t_bring (h : St M z k) (hr : Rs k) {s : Int32} (h0 : 0 ≤ s.toInt) (h1 : s.toInt ≤ 99) (ha : av k s.toInt.toNat) (hh : 0 ≤ (k (308 + s.toInt.toNat)).toInt) :
    ∃ M1 M2 k1, ff_X3_bringToHand M (z + 4) s = some M1 ∧ St M1 z k1 ∧ ff_X3_takeFromHand M1 (z + 4) s = some M2 ∧ St M2 z (pB k s) ∧ Fz z M M2 := by
  by_cases hp : 0 < (k (308 + s.toInt.toNat)).toInt
  · obtain ⟨M2, e2, S2, F2⟩ := t_take h h0 h1 hp
    refine ⟨M, M2, k, ?_, h, e2, ?_, F2⟩
    · simp only [ff_X3_bringToHand, c_t h, t_hand h h0 h1, Option.bind_some]
      rw [if_neg (by rw [zz_le, z0]; omega)]
    · unfold pB
      rw [if_pos hp]
      exact S2
  · have hz : k (308 + s.toInt.toNat) = 0 := by rw [zz_e, z0]; omega
    have hex := av_gv h0 ha hp
    obtain ⟨i1, i2, -⟩ := fi_sp hex
    have ef := t_first h hr s hex
    unfold pB
    rw [if_neg hp]
    generalize fi (gv k s) 10 = i at *
    simp only [gv, decide_eq_true_eq] at i2
    obtain ⟨i3, i4⟩ := i2
    obtain ⟨n1, n2, n3⟩ := fi_sp (cn_pos.mp i4)
    generalize fi (tg k i) (ta k i) = n at *
    have hT := zz_nI (ta k i) (by have := ta_le hr i1; omega)
    have hta := ta_le hr i1
    have hsh : ∀ t, pcs k i t (409 + 11 * i) = s := fun t => by rw [pcs_n (by omega) (by omega) (by omega) (by omega) (by omega) t, i3]
    have hha : ∀ t, pcs k i t (308 + s.toInt.toNat) = 0 := fun t => by rw [pcs_n (by omega) (by omega) (by omega) (by omega) (by omega) t, hz]
    have q2 : ∀ t, pcs k i t 2 = k 2 := fun t => pcs_n (by omega) (by omega) (by omega) (by omega) (by omega) t
    have hdone : ∀ (x : Int32) (M' : mm_M), St M' z (upd (pcs k i (n + 1)) (308 + s.toInt.toNat) 1) → ff_X3_bringToHand_l36 (z + 4) s (z + 7 + 2 * i) (nI (ta k i)) x M' = some (.inr (x, M')) := by
      intro x M' S'
      simp only [ff_X3_bringToHand_l36]
      by_cases hc : nI (ta k i) ≤ x
      · rw [if_pos hc]
      · rw [if_neg hc, c_t S', Option.bind_some, t_hand S' h0 h1, Option.bind_some, upd_s, if_neg (by decide)]
    obtain ⟨e, g1, g2⟩ := it_inv (body := mm_u2 (ff_X3_bringToHand_l36 (z + 4) s (z + 7 + 2 * i) (nI (ta k i)))) (fun t (st : Int32 × mm_M) => st.1.toInt = t ∧ Fz z M st.2 ∧ ((t ≤ n ∧ St st.2 z (pcs k i t)) ∨ (t = n + 1 ∧ St st.2 z (upd (pcs k i (n + 1)) (308 + s.toInt.toNat) 1))))
      (fun e => Fz z M e.2 ∧ St e.2 z (upd (pcs k i (n + 1)) (308 + s.toInt.toNat) 1)) (n + 1) (by
        rintro t ⟨x, M'⟩ ht ⟨hx, hF, hS⟩
        dsimp only at hx hF hS
        rcases hS with ⟨-, hS⟩ | ⟨hS, -⟩
        · refine Or.inl ?_
          obtain ⟨p1, p2⟩ := pcs_t hr i1 (n := t) (by omega)
          obtain ⟨-, p3⟩ := pcs_b hr i1 t (by omega)
          obtain ⟨M3, e3, S3, F3⟩ := t_cut hS p3 i1 p1
          refine ⟨(x + 1, M3), ?_, by show (x + 1).toInt = _; rw [zz_a (by rw [z1]; omega) (by rw [z1]; omega), z1]; omega, Fz_tr hF F3, ?_⟩
          · show ff_X3_bringToHand_l36 (z + 4) s (z + 7 + 2 * i) (nI (ta k i)) x M' = _
            simp only [ff_X3_bringToHand_l36]
            rw [if_neg (by rw [zz_le]; omega), c_t hS, Option.bind_some, t_hand hS h0 h1, Option.bind_some, hha, if_pos rfl, Option.bind_some, e3, Option.bind_some]
            rfl
          · unfold ph at S3
            rw [p2] at S3
            rcases Nat.lt_or_ge t n with q | q
            · rw [n3 t q] at S3
              exact Or.inl ⟨by omega, S3⟩
            · have : t = n := by omega
              subst this
              rw [n2, if_pos rfl, hsh, hha] at S3
              exact Or.inr ⟨rfl, S3⟩
        · exact absurd hS (by omega)) (by
        rintro ⟨x, M'⟩ ⟨hx, hF, hS⟩
        dsimp only at hx hF hS
        rcases hS with ⟨hS, -⟩ | ⟨-, hS⟩
        · exact absurd hS (by omega)
        · exact ⟨(x, M'), hdone x M' hS, hF, hS⟩) ((0 : Int32), M) mm_fu (mm_fu_gt (by omega)) ⟨rfl, Fz_rf, Or.inl ⟨by omega, h⟩⟩
    obtain ⟨x, M1⟩ := e
    obtain ⟨g3, g4⟩ := g2
    dsimp only at g3 g4
    obtain ⟨M2, e2, S2, F2⟩ := t_take g4 h0 h1 (by rw [upd_s]; decide)
    refine ⟨M1, M2, _, ?_, g4, e2, ?_, Fz_tr g3 F2⟩
    · simp only [ff_X3_bringToHand, c_t h, t_hand h h0 h1, ef, g_t3 h, g_t4 h, Option.bind_some, mm_oc, c_r h i1, s_ta h hr i1, g1]
      rw [hz, if_pos (by decide)]
      rfl
    · refine St_congr S2 (fun j hj => ?_)
      by_cases hjs : j = 308 + s.toInt.toNat
      · subst hjs
        rw [upd_s, upd_s, hha]
        decide
      · rw [upd_n hjs, upd_n hjs]
end BR
