/-! the class: its cells from b on; pages after each call (rows of claim whole, without the reference) -/
theorem z4 : (4 : Int32).toInt = 4 := rfl
theorem z20 : (20 : Int32).toInt = 20 := rfl
theorem cx_lt {w h x y : Nat} (hw : w ≤ 12) (hh : h ≤ 12) (hx : x < w) (hy : y < h) : x + w * y < 144 := by
  have : w * y ≤ 12 * 11 := Nat.mul_le_mul (by omega) (by omega)
  omega
theorem lx_nn (k : Nat → Int32) {x y : Nat} (hx : x < 12) (hy : y < 12) : lx k (nI x) (nI y) = k (164 + (12 * y + x)) := by
  unfold lx
  rw [zz_nI x (by omega), zz_nI y (by omega)]
  congr 2
theorem su_one {f g : Nat → Int32} {i : Nat} : ∀ {n : Nat}, i < n → (∀ j, j < n → j ≠ i → g j = f j) → su g n = su f n + (g i - f i)
  | 0, h, _ => by omega
  | n + 1, hi, h => by
    show su g n + g n = su f n + f n + (g i - f i)
    by_cases hn : i = n
    · subst hn
      rw [su_congr (f := g) (g := f) (fun j hj => h j (by omega) (by omega)), Int32.add_assoc, Int32.add_comm (f i), Int32.sub_add_cancel]
    · rw [su_one (n := n) (by omega) (fun j hj => h j (by omega)), h n (by omega) (by omega), Int32.add_assoc, Int32.add_comm (g i - f i), Int32.add_assoc]
theorem ofI_n {r : Int} (h1 : -1 ≤ r) (h2 : r ≤ 99) (h : r ≠ -1) : Int32.ofInt r ≠ -1 := by
  intro e
  rw [zz_e, ofI h1 h2, zm1] at e
  exact h e
theorem cdiv {w c r : Nat} (hw : 0 < w) (hc : c < w * r) : c % w < w ∧ c / w < r ∧ c % w + w * (c / w) = c := ⟨Nat.mod_lt c hw, Nat.div_lt_of_lt_mul hc, Nat.mod_add_div c w⟩
section PM
variable {M : mm_M} {z : Nat} {k : Nat → Int32}
def ME (k : Nat → Int32) : Prop := (∀ j : Nat, (j : Int) < (k 4).toInt → k (12 + j) = k 12) ∨ ∀ j : Nat, (j : Int) < 2 * ((k 0).toInt + (k 1).toInt - 2) → bw k j ≠ bw k (if j = 0 then 2 * ((k 0).toInt + (k 1).toInt - 2) - 1 else (j : Int) - 1)
theorem p_one (h : St M z k) (hp : Rp k) : (ff_X1_patternHasOneShade M (z + 1) = some 1 ∧ ∀ j : Nat, (j : Int) < (k 4).toInt → k (12 + j) = k 12) ∨ (ff_X1_patternHasOneShade M (z + 1) = some 0 ∧ ¬ ∀ j : Nat, (j : Int) < (k 4).toInt → k (12 + j) = k 12) := by
  have hp' := hp
  unfold Rp at hp'
  obtain ⟨L, eL⟩ : ∃ L : Nat, (k 4).toInt = L + 1 := ⟨(k 4).toInt.toNat - 1, by omega⟩
  have p0 := p_pat h hp (n := 0) (by decide)
  have p00 : ((0 : Int32).toInt % (k 4).toInt).toNat = 0 := by rw [z0, Int.zero_emod]; rfl
  rw [p00, Nat.add_zero] at p0
  obtain ⟨e, g1, g2⟩ := it_inv (body := mm_u1 (ff_X1_patternHasOneShade_l2 M (z + 1))) (fun t (s : Int32) => s = nI (t + 1) ∧ ∀ j : Nat, j < t + 1 → k (12 + j) = k 12) (fun e => ((∃ x, e = .inl x) ∧ ∀ j : Nat, (j : Int) < (k 4).toInt → k (12 + j) = k 12) ∨ (e = .inr 0 ∧ ¬ ∀ j : Nat, (j : Int) < (k 4).toInt → k (12 + j) = k 12)) L (by
      rintro t s ht ⟨rfl, hj⟩
      have et := zz_nI (t + 1) (by omega)
      have pt := p_pat h hp (n := nI (t + 1)) (by omega)
      have e2 : ((nI (t + 1)).toInt % (k 4).toInt).toNat = t + 1 := by rw [et, Int.emod_eq_of_lt (by omega) (by omega)]; omega
      rw [e2] at pt
      show (∃ s', ff_X1_patternHasOneShade_l2 M (z + 1) (nI (t + 1)) = _ ∧ _) ∨ (∃ e, ff_X1_patternHasOneShade_l2 M (z + 1) (nI (t + 1)) = _ ∧ _)
      simp only [ff_X1_patternHasOneShade_l2, g_p2 h, c_p h, pt, p0, Option.bind_some]
      rw [if_neg (by rw [zz_le]; omega), nI_1]
      by_cases hc : k (12 + (t + 1)) = k 12
      · rw [if_pos hc]
        exact Or.inl ⟨_, rfl, rfl, fun j hj2 => by
          by_cases hjt : j = t + 1
          · rw [hjt]; exact hc
          · exact hj j (by omega)⟩
      · rw [if_neg hc]
        exact Or.inr ⟨_, rfl, Or.inr ⟨rfl, fun q => hc (q (t + 1) (by omega))⟩⟩) (by
      rintro s ⟨rfl, hj⟩
      have et := zz_nI (L + 1) (by omega)
      refine ⟨.inl (nI (L + 1)), ?_, Or.inl ⟨⟨_, rfl⟩, fun j hj2 => hj j (by omega)⟩⟩
      show ff_X1_patternHasOneShade_l2 M (z + 1) (nI (L + 1)) = _
      simp only [ff_X1_patternHasOneShade_l2, g_p2 h, Option.bind_some]
      rw [if_pos (by rw [zz_le]; omega)]) (1 : Int32) mm_fu (mm_fu_gt (by omega)) ⟨rfl, fun j hj => by rw [show j = 0 by omega]⟩
  simp only [ff_X1_patternHasOneShade, g1, Option.bind_some]
  rcases g2 with ⟨⟨x, rfl⟩, g3⟩ | ⟨rfl, g3⟩
  · exact Or.inl ⟨rfl, g3⟩
  · exact Or.inr ⟨rfl, g3⟩
theorem p_meets (h : St M z k) (hp : Rp k) : (ff_X1_borderMeets M (z + 1) = some 1 ∧ ME k) ∨ (ff_X1_borderMeets M (z + 1) = some 0 ∧ ¬ ME k) := by
  have hp' := hp
  unfold Rp at hp'
  rcases p_one h hp with ⟨o1, o2⟩ | ⟨o1, o2⟩
  · simp only [ff_X1_borderMeets, c_p h, o1, Option.bind_some]
    exact Or.inl ⟨by rw [if_neg (by decide)], Or.inl o2⟩
  · simp only [ff_X1_borderMeets, c_p h, o1, p_cells h, Option.bind_some]
    rw [if_pos trivial]
    have eN := hB_2 hp
    have e1 : (2 * hB k - 1).toInt = 2 * ((k 0).toInt + (k 1).toInt - 2) - 1 := by rw [zz_s (by rw [z1]; omega) (by rw [z1]; omega), z1, eN]
    rw [p_wb h hp (by omega) (by omega), Option.bind_some, e1]
    obtain ⟨N, hN⟩ : ∃ N : Nat, 2 * ((k 0).toInt + (k 1).toInt - 2) = N := ⟨(2 * ((k 0).toInt + (k 1).toInt - 2)).toNat, by omega⟩
    have hME : ME k ↔ ∀ j : Nat, j < N → bw k j ≠ bw k (if j = 0 then (N : Int) - 1 else (j : Int) - 1) := by
      unfold ME
      rw [hN]
      constructor
      · rintro (q | q)
        · exact absurd q o2
        · exact fun j hj => q j (by omega)
      · exact fun q => Or.inr (fun j hj => q j (by omega))
    rw [hN] at eN ⊢
    obtain ⟨e, g1, g2⟩ := it_inv (body := mm_u2 (ff_X1_borderMeets_l22 M (z + 1))) (fun t (s : Int32 × Int32) => s = (bw k (if t = 0 then (N : Int) - 1 else (t : Int) - 1), nI t) ∧ ∀ j : Nat, j < t → bw k j ≠ bw k (if j = 0 then (N : Int) - 1 else (j : Int) - 1)) (fun e => ((∃ x, e = .inl x) ∧ ME k) ∨ (e = .inr 0 ∧ ¬ ME k)) N (by
        rintro t s ht ⟨rfl, hj⟩
        have et := zz_nI t (by omega)
        have pt := p_wb h hp (n := nI t) (by omega) (by omega)
        rw [et] at pt
        show (∃ s', ff_X1_borderMeets_l22 M (z + 1) _ (nI t) = _ ∧ _) ∨ (∃ e, ff_X1_borderMeets_l22 M (z + 1) _ (nI t) = _ ∧ _)
        simp only [ff_X1_borderMeets_l22, c_p h, p_cells h, pt, Option.bind_some]
        rw [if_neg (by rw [zz_le]; omega), nI_1]
        by_cases hc : bw k t = bw k (if t = 0 then (N : Int) - 1 else (t : Int) - 1)
        · rw [if_pos hc]
          exact Or.inr ⟨_, rfl, Or.inr ⟨rfl, fun q => hME.mp q t ht hc⟩⟩
        · rw [if_neg hc]
          refine Or.inl ⟨_, rfl, ?_, fun j hj2 => ?_⟩
          · rw [if_neg (by omega)]
            congr 2
            omega
          · by_cases hjt : j = t
            · rw [hjt]; exact hc
            · exact hj j (by omega)) (by
        rintro s ⟨rfl, hj⟩
        have et := zz_nI N (by omega)
        refine ⟨.inl (bw k (if N = 0 then (N : Int) - 1 else (N : Int) - 1), nI N), ?_, Or.inl ⟨⟨_, rfl⟩, hME.mpr hj⟩⟩
        show ff_X1_borderMeets_l22 M (z + 1) _ (nI N) = _
        simp only [ff_X1_borderMeets_l22, c_p h, p_cells h, Option.bind_some]
        rw [if_pos (by rw [zz_le]; omega)]) (bw k ((N : Int) - 1), (0 : Int32)) mm_fu (mm_fu_gt (by omega)) ⟨rfl, fun j hj => by omega⟩
    simp only [g1, Option.bind_some]
    rcases g2 with ⟨⟨x, rfl⟩, g3⟩ | ⟨rfl, g3⟩
    · exact Or.inl ⟨rfl, g3⟩
    · exact Or.inr ⟨rfl, g3⟩
end PM
def Ci (M : mm_M) (b : Nat) (k : Nat → Int32) (u : Nat) (pg : Nat → Nat → Int32) (tl : Nat) (tx : Nat → Int32) : Prop :=
  M b = some (.inl (6, [.ref (b + 1), .ref (b + 29), .ref (b + 57), .ref (b + 199)])) ∧ St M (b + 1) k ∧ (∃ kt, St M (b + 29) kt) ∧ (∃ sa, Hi M (b + 57) u sa pg) ∧ Tx M (b + 199) tl tx
def Fb (b : Nat) (M M' : mm_M) : Prop := ∀ a, (a < b ∨ b + 201 ≤ a) → M' a = M a
theorem Fb_rf {b : Nat} {M : mm_M} : Fb b M M := fun _ _ => rfl
theorem Fb_tr {b : Nat} {M M1 M2 : mm_M} (h : Fb b M M1) (h2 : Fb b M1 M2) : Fb b M M2 := fun a ha => (h2 a ha).trans (h a ha)
theorem Fb_z {b : Nat} {M M' : mm_M} (h : Fz (b + 1) M M') : Fb b M M' := fun a ha => h a (by omega)
theorem Hi_kept {M M' : mm_M} {a u : Nat} {sa : Nat → Nat} {pg : Nat → Nat → Int32} (h : Hi M a u sa pg) (hM : ∀ q, a ≤ q → q < a + 142 → M' q = M q) : Hi M' a u sa pg := by
  obtain ⟨h1, ⟨f, h2, h3⟩, h4, h5, h6⟩ := h
  exact ⟨by rw [hM _ (by omega) (by omega)]; exact h1, ⟨f, by rw [hM _ (by omega) (by omega)]; exact h2, h3⟩, h4, h5, fun i hi => St_kept (h6 i hi) (fun q q1 q2 => hM q (by omega) (by have := h4 i hi; omega))⟩
theorem Tx_kept {M M' : mm_M} {a n : Nat} {f : Nat → Int32} (h : Tx M a n f) (h0 : M' a = M a) (h1 : M' (a + 1) = M (a + 1)) : Tx M' a n f := by
  obtain ⟨g1, g, g2, g3⟩ := h
  exact ⟨by rw [h0]; exact g1, g, by rw [h1]; exact g2, g3⟩
section CI
variable {M M' : mm_M} {b u tl : Nat} {k k' : Nat → Int32} {pg : Nat → Nat → Int32} {tx : Nat → Int32}
theorem Ci_kept (h : Ci M b k u pg tl tx) (hM : ∀ a, b ≤ a → a < b + 201 → M' a = M a) : Ci M' b k u pg tl tx := by
  obtain ⟨h1, h2, ⟨kt, h3⟩, ⟨sa, h4⟩, h5⟩ := h
  exact ⟨by rw [hM _ (by omega) (by omega)]; exact h1, St_kept h2 (fun q q1 q2 => hM q (by omega) (by omega)), ⟨kt, St_kept h3 (fun q q1 q2 => hM q (by omega) (by omega))⟩, ⟨sa, Hi_kept h4 (fun q q1 q2 => hM q (by omega) (by omega))⟩, Tx_kept h5 (hM _ (by omega) (by omega)) (hM _ (by omega) (by omega))⟩
theorem Ci.st (h : Ci M b k u pg tl tx) : St M (b + 1) k := h.2.1
theorem i_0 (h : Ci M b k u pg tl tx) : mm_gR 6 M b 0 = some (b + 1) := rR h.1 rfl
theorem i_1 (h : Ci M b k u pg tl tx) : mm_gR 6 M b 1 = some (b + 29) := rR h.1 rfl
theorem i_2 (h : Ci M b k u pg tl tx) : mm_gR 6 M b 2 = some (b + 57) := rR h.1 rfl
theorem i_3 (h : Ci M b k u pg tl tx) : mm_gR 6 M b 3 = some (b + 199) := rR h.1 rfl
theorem i_c (h : Ci M b k u pg tl tx) : mm_ck 6 M b = some () := rC h.1
theorem i_h (h : Ci M b k u pg tl tx) : mm_ck 0 M (b + 57) = some () := by obtain ⟨-, -, -, ⟨sa, h4⟩, -⟩ := h; exact h_ck h4
theorem i_x (h : Ci M b k u pg tl tx) : mm_ck 5 M (b + 199) = some () := k_ck h.2.2.2.2
theorem i_u (h : Ci M b k u pg tl tx) : ff_X0_states M (b + 57) = some (nI u) := by
  obtain ⟨-, -, -, ⟨sa, h4⟩, -⟩ := h
  simp only [ff_X0_states, h_use h4, Option.bind_some]
theorem Ci_now (h : Ci M b k u pg tl tx) (hs : St M' (b + 1) k') (hF : Fz (b + 1) M M') : Ci M' b k' u pg tl tx ∧ Fb b M M' := by
  obtain ⟨h1, h2, ⟨kt, h3⟩, ⟨sa, h4⟩, h5⟩ := h
  exact ⟨⟨by rw [hF _ (by omega)]; exact h1, hs, ⟨kt, St_fz h3 hF (by omega)⟩, ⟨sa, Hi_kept h4 (fun q q1 q2 => hF q (by omega))⟩, Tx_kept h5 (hF _ (by omega)) (hF _ (by omega))⟩, Fb_z hF⟩
def uk (u : Nat) : Nat := if u < 5 then u + 1 else 5
def pgk (u : Nat) (k : Nat → Int32) (pg : Nat → Nat → Int32) : Nat → Nat → Int32 := if u < 5 then (fun i => if i = u then k else pg i) else (fun i => if i = 4 then k else rot pg i)
theorem c_keep (h : Ci M b k u pg tl tx) (hu : u ≤ 5) : ∃ M1, ff_X0_keep M (b + 57) (b + 1) = some M1 ∧ Ci M1 b k (uk u) (pgk u k pg) tl tx ∧ Fb b M M1 := by
  obtain ⟨h1, h2, ⟨kt, h3⟩, ⟨sa, h4⟩, h5⟩ := h
  obtain ⟨M1, sa', k1, k2, k3⟩ := h_keep h4 hu h2 (by omega)
  exact ⟨M1, k1, ⟨by rw [k3 _ (by omega)]; exact h1, St_kept h2 (fun q q1 q2 => k3 q (by omega)), ⟨kt, St_kept h3 (fun q q1 q2 => k3 q (by omega))⟩, ⟨sa', k2⟩, Tx_kept h5 (k3 _ (by omega)) (k3 _ (by omega))⟩, fun q hq => k3 q (by omega)⟩
theorem Ci_trial {M' : mm_M} {kt : Nat → Int32} (h : Ci M b k u pg tl tx) (hs : St M' (b + 29) kt) (hF : Fz (b + 29) M M') : Ci M' b k u pg tl tx ∧ Fb b M M' := by
  obtain ⟨h1, h2, -, ⟨sa, h4⟩, h5⟩ := h
  exact ⟨⟨by rw [hF _ (by omega)]; exact h1, St_fz h2 hF (by omega), ⟨kt, hs⟩, ⟨sa, Hi_kept h4 (fun q q1 q2 => hF q (by omega))⟩, Tx_kept h5 (hF _ (by omega)) (hF _ (by omega))⟩, fun a ha => hF a (by omega)⟩
end CI
theorem IP_mono {n n' : Int} {k : Nat → Int32} (h : IP n k) (hn : n ≤ n') : IP n' k := ⟨h.1, h.2.1, h.2.2.1, fun s hs => by have := h.2.2.2 s hs; omega⟩
section UP
variable {k m : Nat → Int32} {n : Int} {j : Nat} {v : Int32}
theorem pcs_Rp (hp : Rp k) {i : Nat} : ∀ n, Rp (pcs k i n) := by
  intro n
  unfold Rp
  rw [pcs_n (by omega) (by omega) (by omega) (by omega) (by omega), pcs_n (by omega) (by omega) (by omega) (by omega) (by omega), pcs_n (by omega) (by omega) (by omega) (by omega) (by omega), pcs_n (by omega) (by omega) (by omega) (by omega) (by omega)]
  exact hp
theorem su_ind {p : Nat → Prop} [DecidablePred p] : ∀ n : Nat, ∃ c : Nat, su (fun j => if p j then (0 : Int32) else 1) n = nI c ∧ c ≤ n ∧ (c = 0 ↔ ∀ j, j < n → p j)
  | 0 => ⟨0, rfl, by omega, by simp⟩
  | n + 1 => by
    obtain ⟨c, h1, h2, h3⟩ := su_ind (p := p) n
    show ∃ d, su (fun j => if p j then (0 : Int32) else 1) n + (if p n then (0 : Int32) else 1) = nI d ∧ _
    rw [h1]
    by_cases hp : p n
    · refine ⟨c, by rw [if_pos hp, Int32.add_zero], by omega, ?_⟩
      rw [h3]
      constructor
      · intro h j hj
        by_cases hjn : j = n
        · rw [hjn]; exact hp
        · exact h j (by omega)
      · intro h j hj; exact h j (by omega)
    · refine ⟨c + 1, by rw [if_neg hp, nI_1], by omega, ?_⟩
      constructor
      · intro h; omega
      · intro h; exact absurd (h n (by omega)) hp
theorem Rp_up (h : Rp k) (hj : j ≠ 0 ∧ j ≠ 1 ∧ j ≠ 4 ∧ j ≠ 5) : Rp (upd k j v) := by
  unfold Rp
  rw [upd_n (by omega), upd_n (by omega), upd_n (by omega), upd_n (by omega)]
  exact h
theorem Rl_up (h : Rl k) (hp : Rp k) (hj : j ≠ 0 ∧ j ≠ 1 ∧ j ≠ 4 ∧ (j < 12 ∨ 308 ≤ j)) : Rl (upd k j v) := by
  unfold Rp at hp
  refine ⟨fun i hi => by rw [upd_n (by omega)]; exact h.1 i hi, fun x y hx hy hn => ?_, fun i hi => by rw [upd_n (by omega)]; exact h.2.2.1 i hi, fun i hi => ?_⟩
  · rw [upd_n (i := j) (j := 0) (by omega), upd_n (i := j) (j := 1) (by omega)] at hn
    rw [upd_n (by omega)]
    exact h.2.1 x y hx hy hn
  · rw [upd_n (i := j) (j := 4) (by omega)] at hi
    rw [upd_n (by omega)]
    exact h.2.2.2 i hi
theorem Rs_up (h : Rs k) (hj : j ≠ 2 ∧ j ≠ 3 ∧ j ≠ 6 ∧ j < 408) : Rs (upd k j v) := Rs_congr h (upd_n (by omega)) (upd_n (by omega)) (upd_n (by omega)) (fun i _ _ => upd_n (by omega))
theorem Rh_up (h : Rh n k) (hj : j < 308 ∨ 408 ≤ j) : Rh n (upd k j v) := fun s hs => by rw [upd_n (by omega)]; exact h s hs
theorem IP_up (h : IP n k) (hj : j = 7 ∨ j = 8 ∨ j = 9 ∨ j = 10 ∨ j = 11) : IP n (upd k j v) := ⟨Rp_up h.1 (by omega), Rl_up h.2.1 h.1 (by omega), Rs_up h.2.2.1 (by omega), Rh_up h.2.2.2 (by omega)⟩
theorem IP_hand (h : IP n k) {s : Nat} (hs : s < 100) (h0 : 0 ≤ v.toInt) (h1 : v.toInt ≤ n + 1) : IP (n + 1) (upd k (308 + s) v) := by
  refine ⟨Rp_up h.1 (by omega), Rl_up h.2.1 h.1 (by omega), Rs_up h.2.2.1 (by omega), fun q hq => ?_⟩
  by_cases hqs : q = s
  · subst hqs; rw [upd_s]; exact ⟨h0, h1⟩
  · rw [upd_n (by omega)]
    have := h.2.2.2 q hq
    omega
theorem hand_1 (h : IP n k) (hn : n ≤ 1000000) {s : Nat} (hs : s < 100) : 0 ≤ (k (308 + s) + 1).toInt ∧ (k (308 + s) + 1).toInt ≤ n + 1 := by
  have := h.2.2.2 s hs
  rw [zz_a (by rw [z1]; omega) (by rw [z1]; omega), z1]
  omega
theorem lc_0 (hl : Rl k) (h : (lc k).toInt ≤ 0) : ∀ j, j < 144 → k (164 + j) = -1 := by
  obtain ⟨c, c1, c2, c3⟩ := su_ind (p := fun j => k (164 + j) = -1) 144
  have e : lc k = nI c := c1
  have ec := zz_nI c (by omega)
  rw [e] at h
  exact c3.mp (by omega)
theorem lc_p (hl : Rl k) (h : ¬ (lc k).toInt ≤ 0) : ∃ j, j < 144 ∧ k (164 + j) ≠ -1 := by
  obtain ⟨c, c1, c2, c3⟩ := su_ind (p := fun j => k (164 + j) = -1) 144
  have e : lc k = nI c := c1
  have ec := zz_nI c (by omega)
  rw [e] at h
  refine Classical.byContradiction fun q => ?_
  have := c3.mpr (fun j hj => Classical.byContradiction fun r => q ⟨j, hj, r⟩)
  omega
theorem IP_way (h : IP n k) (h0 : 0 ≤ v.toInt ∧ v.toInt ≤ 2) : IP n (upd k 5 v) := by
  refine ⟨?_, Rl_up h.2.1 h.1 (by omega), Rs_up h.2.2.1 (by omega), Rh_up h.2.2.2 (by omega)⟩
  have hp := h.1
  unfold Rp at hp ⊢
  rw [upd_n (by omega), upd_n (by omega), upd_n (by omega), upd_s]
  exact ⟨hp.1, hp.2.1, hp.2.2.1, h0⟩
theorem IP_loss (h : IP n k) (h0 : 0 ≤ v.toInt ∧ v.toInt ≤ 5) : IP n (upd k 3 v) := by
  refine ⟨Rp_up h.1 (by omega), Rl_up h.2.1 h.1 (by omega), ?_, Rh_up h.2.2.2 (by omega)⟩
  obtain ⟨s2, s3, s6, s⟩ := h.2.2.1
  refine ⟨by rw [upd_n (by omega)]; exact s2, by rw [upd_s]; exact h0, by rw [upd_n (by omega)]; exact s6, fun i hi => ?_⟩
  rw [upd_n (by omega), upd_n (by omega), upd_n (by omega), upd_n (by omega), upd_n (by omega)]
  exact s i hi
theorem IP_size (h : IP n k) (hn : 0 ≤ n) (h0 : 5 ≤ v.toInt ∧ v.toInt ≤ 60) : IP n (upd (pTh k) 2 v) := by
  have e : ∀ j, (j < 308 ∨ 408 ≤ j) → j ≠ 11 → pTh k j = k j := fun j hj h11 => by unfold pTh; rw [if_neg (by omega), upd_n h11]
  obtain ⟨hp, hl, ⟨s2, s3, s6, s⟩, hh⟩ := h
  unfold Rp at hp
  refine ⟨?_, ?_, ?_, fun q hq => ?_⟩
  · unfold Rp
    rw [upd_n (by omega), upd_n (by omega), upd_n (by omega), upd_n (by omega), e 0 (by omega) (by omega), e 1 (by omega) (by omega), e 4 (by omega) (by omega), e 5 (by omega) (by omega)]
    exact hp
  · refine ⟨fun i hi => by rw [upd_n (by omega), e _ (by omega) (by omega)]; exact hl.1 i hi, fun x y hx hy hn => ?_, fun i hi => by rw [upd_n (by omega), e _ (by omega) (by omega)]; exact hl.2.2.1 i hi, fun i hi => ?_⟩
    · rw [upd_n (i := 2) (j := 0) (by omega), upd_n (i := 2) (j := 1) (by omega), e 0 (by omega) (by omega), e 1 (by omega) (by omega)] at hn
      rw [upd_n (by omega), e _ (by omega) (by omega)]
      exact hl.2.1 x y hx hy hn
    · rw [upd_n (i := 2) (j := 4) (by omega), e 4 (by omega) (by omega)] at hi
      rw [upd_n (by omega), e _ (by omega) (by omega)]
      exact hl.2.2.2 i hi
  · refine ⟨by rw [upd_s]; exact h0, by rw [upd_n (by omega), e _ (by omega) (by omega)]; exact s3, by rw [upd_n (by omega), e _ (by omega) (by omega)]; exact s6, fun i hi => ?_⟩
    rw [upd_n (by omega), upd_n (by omega), upd_n (by omega), upd_n (by omega), upd_n (by omega), e _ (by omega) (by omega), e _ (by omega) (by omega), e _ (by omega) (by omega), e _ (by omega) (by omega), e _ (by omega) (by omega)]
    exact s i hi
  · rw [upd_n (by omega)]
    unfold pTh
    rw [if_pos (by omega), z0]
    omega
theorem IP_want (h : IP n k) {x y : Nat} (hx : x < 12) (hy : y < 12) (h0 : 0 ≤ v.toInt ∧ v.toInt ≤ 99) : IP n (upd k (20 + (12 * y + x)) v) := by
  obtain ⟨hp, hl, hs, hh⟩ := h
  refine ⟨Rp_up hp (by omega), ?_, Rs_up hs (by omega), Rh_up hh (by omega)⟩
  unfold Rp at hp
  refine ⟨fun i hi => by rw [upd_n (by omega)]; exact hl.1 i hi, fun a b ha hb hn => ?_, fun i hi => ?_, fun i hi => ?_⟩
  · rw [upd_n (i := 20 + (12 * y + x)) (j := 0) (by omega), upd_n (i := 20 + (12 * y + x)) (j := 1) (by omega)] at hn
    rw [upd_n (by omega)]
    exact hl.2.1 a b ha hb hn
  · by_cases hi2 : 20 + i = 20 + (12 * y + x)
    · rw [hi2, upd_s]; exact h0
    · rw [upd_n hi2]; exact hl.2.2.1 i hi
  · rw [upd_n (i := 20 + (12 * y + x)) (j := 4) (by omega)] at hi
    rw [upd_n (by omega)]
    exact hl.2.2.2 i hi
theorem IP_strip (h : IP n k) {i : Nat} (hi : i < 10) (ei : k 6 = nI i) {L s : Int32} (hL : 0 ≤ L.toInt ∧ L.toInt ≤ 1000) (hs : 0 ≤ s.toInt ∧ s.toInt ≤ 99) : IP n (pAs k i L s) := by
  obtain ⟨hp, hl, ⟨s2, s3, s6, ss⟩, hh⟩ := h
  have e6 := zz_nI i (by omega)
  have w : ∀ j, j < 408 → j ≠ 6 → pAs k i L s j = k j := fun j hj h6 => by
    unfold pAs
    rw [upd_n h6, upd_n (by omega), upd_n (by omega), upd_n (by omega), upd_n (by omega), upd_n (by omega)]
  have w6 : pAs k i L s 6 = nI (i + 1) := by unfold pAs; rw [upd_s, ei, nI_1]
  have e7 := zz_nI (i + 1) (by omega)
  unfold Rp at hp
  refine ⟨?_, ?_, ?_, fun q hq => by rw [w _ (by omega) (by omega)]; exact hh q hq⟩
  · unfold Rp
    rw [w 0 (by omega) (by omega), w 1 (by omega) (by omega), w 4 (by omega) (by omega), w 5 (by omega) (by omega)]
    exact hp
  · refine ⟨fun j hj => by rw [w _ (by omega) (by omega)]; exact hl.1 j hj, fun x y hx hy hn => ?_, fun j hj => by rw [w _ (by omega) (by omega)]; exact hl.2.2.1 j hj, fun j hj => ?_⟩
    · rw [w 0 (by omega) (by omega), w 1 (by omega) (by omega)] at hn
      rw [w _ (by omega) (by omega)]
      exact hl.2.1 x y hx hy hn
    · rw [w 4 (by omega) (by omega)] at hj
      rw [w _ (by omega) (by omega)]
      exact hl.2.2.2 j hj
  · refine ⟨by rw [w 2 (by omega) (by omega)]; exact s2, by rw [w 3 (by omega) (by omega)]; exact s3, by rw [w6]; omega, fun q hq => ?_⟩
    rw [w6]
    by_cases hqi : q = i
    · subst hqi
      have a0 : pAs k q L s (408 + 11 * q) = L := by unfold pAs; rw [upd_n (by omega), upd_n (by omega), upd_n (by omega), upd_n (by omega), upd_n (by omega), upd_s]
      have a1 : pAs k q L s (409 + 11 * q) = s := by unfold pAs; rw [upd_n (by omega), upd_n (by omega), upd_n (by omega), upd_n (by omega), upd_s]
      have a2 : pAs k q L s (410 + 11 * q) = 0 := by unfold pAs; rw [upd_n (by omega), upd_n (by omega), upd_n (by omega), upd_s]
      have a3 : pAs k q L s (411 + 11 * q) = 0 := by unfold pAs; rw [upd_n (by omega), upd_n (by omega), upd_s]
      rw [a0, a1, a2, a3, z0]
      omega
    · have o : ∀ j, 408 + 11 * q ≤ j → j < 419 + 11 * q → pAs k i L s j = k j := fun j h1 h2 => by
        unfold pAs
        rw [upd_n (by omega), upd_n (by omega), upd_n (by omega), upd_n (by omega), upd_n (by omega), upd_n (by omega)]
      rw [o _ (by omega) (by omega), o _ (by omega) (by omega), o _ (by omega) (by omega), o _ (by omega) (by omega)]
      have := ss q hq
      rw [ei] at this
      omega
theorem IP_flaw (h : IP n k) {i : Nat} (hi : i < 10) (h0 : 0 ≤ (k (411 + 11 * i)).toInt) (h1 : (k (411 + 11 * i)).toInt < 6) : IP n (pFl k i v) := by
  obtain ⟨hp, hl, ⟨s2, s3, s6, ss⟩, hh⟩ := h
  have w : ∀ j, j < 408 → pFl k i v j = k j := fun j hj => by unfold pFl; rw [upd_n (by omega), upd_n (by omega)]
  have w2 : ∀ j, j ≠ 411 + 11 * i → (∀ t, t < 6 → j ≠ 413 + 11 * i + t) → pFl k i v j = k j := fun j hj ht => by
    unfold pFl
    rw [upd_n hj, upd_n (ht _ (by omega))]
  unfold Rp at hp
  refine ⟨?_, ?_, ?_, fun q hq => by rw [w _ (by omega)]; exact hh q hq⟩
  · unfold Rp
    rw [w 0 (by omega), w 1 (by omega), w 4 (by omega), w 5 (by omega)]
    exact hp
  · refine ⟨fun j hj => by rw [w _ (by omega)]; exact hl.1 j hj, fun x y hx hy hn => ?_, fun j hj => by rw [w _ (by omega)]; exact hl.2.2.1 j hj, fun j hj => ?_⟩
    · rw [w 0 (by omega), w 1 (by omega)] at hn
      rw [w _ (by omega)]
      exact hl.2.1 x y hx hy hn
    · rw [w 4 (by omega)] at hj
      rw [w _ (by omega)]
      exact hl.2.2.2 j hj
  · refine ⟨by rw [w 2 (by omega)]; exact s2, by rw [w 3 (by omega)]; exact s3, by rw [w 6 (by omega)]; exact s6, fun q hq => ?_⟩
    rw [w2 (408 + 11 * q) (by omega) (fun t ht => by omega), w2 (409 + 11 * q) (by omega) (fun t ht => by omega), w2 (410 + 11 * q) (by omega) (fun t ht => by omega), w 6 (by omega)]
    have hq1 := ss q hq
    by_cases hqi : q = i
    · subst hqi
      have : pFl k q v (411 + 11 * q) = k (411 + 11 * q) + 1 := by unfold pFl; rw [upd_s]
      rw [this, zz_a (by rw [z1]; omega) (by rw [z1]; omega), z1]
      exact ⟨hq1.1, hq1.2.1, hq1.2.2.1, by omega, hq1.2.2.2.2⟩
    · rw [w2 (411 + 11 * q) (by omega) (fun t ht => by omega)]
      exact hq1
theorem IP_cut (h : IP n k) (hn : n ≤ 1000000) {i : Nat} (hi : i < 10) (hc : 0 < ta k i) : IP (n + 1) (ph k i) := by
  have h1 := pcs_b h.2.2.1 hi 1 (by omega)
  have hI : IP n (pc k i) := by
    refine ⟨pcs_Rp h.1 1, ?_, h1.2, fun q hq => ?_⟩
    · have hp := h.1
      unfold Rp at hp
      have w : ∀ j, j < 308 → j ≠ 10 → j ≠ 8 → j ≠ 9 → pc k i j = k j := fun j a b c d => pc_n (by omega) (by omega) b c d
      have hl := h.2.1
      refine ⟨fun j hj => by rw [w _ (by omega) (by omega) (by omega) (by omega)]; exact hl.1 j hj, fun x y hx hy hn => ?_, fun j hj => by rw [w _ (by omega) (by omega) (by omega) (by omega)]; exact hl.2.2.1 j hj, fun j hj => ?_⟩
      · rw [w 0 (by omega) (by omega) (by omega) (by omega), w 1 (by omega) (by omega) (by omega) (by omega)] at hn
        rw [w _ (by omega) (by omega) (by omega) (by omega)]
        exact hl.2.1 x y hx hy hn
      · rw [w 4 (by omega) (by omega) (by omega) (by omega)] at hj
        rw [w _ (by omega) (by omega) (by omega) (by omega)]
        exact hl.2.2.2 j hj
    · rw [pc_n (by omega) (by omega) (by omega) (by omega) (by omega)]
      exact h.2.2.2 q hq
  unfold ph
  split
  · have hs := (h.2.2.1.2.2.2 i hi).2.1
    have hq := hand_1 h hn (s := (k (409 + 11 * i)).toInt.toNat) (by omega)
    exact IP_hand hI (by omega) hq.1 hq.2
  · exact IP_mono hI (by omega)
theorem IP_ld (h : IP n k) {x y : Nat} (hx : x < 12) (hy : y < 12) : IP n (upd k (164 + (12 * y + x)) (-1)) := by
  obtain ⟨hp, hl, hs, hh⟩ := h
  refine ⟨Rp_up hp (by omega), ?_, Rs_up hs (by omega), Rh_up hh (by omega)⟩
  unfold Rp at hp
  refine ⟨fun i hi => ?_, fun a b ha hb hn => ?_, fun i hi => by rw [upd_n (by omega)]; exact hl.2.2.1 i hi, fun i hi => ?_⟩
  · by_cases hi2 : 164 + i = 164 + (12 * y + x)
    · rw [hi2, upd_s]; decide
    · rw [upd_n hi2]; exact hl.1 i hi
  · rw [upd_n (i := 164 + (12 * y + x)) (j := 0) (by omega), upd_n (i := 164 + (12 * y + x)) (j := 1) (by omega)] at hn
    by_cases hi2 : 164 + (12 * b + a) = 164 + (12 * y + x)
    · rw [hi2, upd_s]
    · rw [upd_n hi2]; exact hl.2.1 a b ha hb hn
  · rw [upd_n (i := 164 + (12 * y + x)) (j := 4) (by omega)] at hi
    rw [upd_n (by omega)]
    exact hl.2.2.2 i hi
end UP
section RD
variable {M : mm_M} {b : Nat} {k : Nat → Int32}
theorem ins_nat {x y : Int32} (hi : ins k x y) : ∃ a c : Nat, x = nI a ∧ y = nI c ∧ (a : Int) < (k 0).toInt ∧ (c : Int) < (k 1).toInt := by
  unfold ins at hi
  obtain ⟨a, a1, a2⟩ := nat_of hi.1
  obtain ⟨c, c1, c2⟩ := nat_of hi.2.2.1
  exact ⟨a, c, a2, c2, by omega, by omega⟩
theorem ci10 {α : Type} {P : Prop} [Decidable P] (x y : α) : (if (if P then (1 : Int32) else 0) = 0 then x else y) = if P then y else x := by
  by_cases h : P
  · rw [if_pos h, if_pos h, if_neg (by decide)]
  · rw [if_neg h, if_neg h, if_pos rfl]
theorem ci01 {α : Type} {P : Prop} [Decidable P] (x y : α) : (if (if P then (0 : Int32) else 1) = 0 then x else y) = if P then x else y := by
  by_cases h : P
  · rw [if_pos h, if_pos h, if_pos rfl]
  · rw [if_neg h, if_neg h, if_neg (by decide)]
theorem is_99 (x : Int32) : ff_X6_isShade M x = some (if 0 ≤ x.toInt ∧ x.toInt ≤ 99 then 1 else 0) := by
  by_cases hx : 0 ≤ x.toInt ∧ x.toInt ≤ 99
  · rw [if_pos hx, t_wi hx.1 hx.2]
  · rw [if_neg hx, t_wi0 (by omega)]
theorem df_r (hp : Rp k) (hl : Rl k) {x y : Int32} (hi : ins k x y) : 0 ≤ (df k x y).toInt := by
  have b1 := wn_r hp hl hi
  have b2 := lx_r hp hl hi
  unfold df
  split
  · decide
  · rw [zz_ab (by rw [zz_s (by omega) (by omega)]; omega)]
    omega
theorem e6i : (6 : Int32).toInt = 6 := rfl
theorem e20i : (20 : Int32).toInt = 20 := rfl
theorem e60i : (60 : Int32).toInt = 60 := rfl
theorem e99i : (99 : Int32).toInt = 99 := rfl
theorem e999i : (999 : Int32).toInt = 999 := rfl
theorem e1000i : (1000 : Int32).toInt = 1000 := rfl
theorem p_wif (h : St M b k) (hp : Rp k) {x y : Nat} (hx : (x : Int) < (k 0).toInt) (hy : (y : Int) < (k 1).toInt) (v : Int32) : ∃ M', ff_X1_wantInField M (b + 1) (nI x) (nI y) v = some M' ∧ St M' b (upd k (20 + (12 * y + x)) v) ∧ Fz b M M' := by
  have hp' := hp
  unfold Rp at hp'
  have hin : ins k (nI x) (nI y) := ins_n (w := (k 0).toInt.toNat) (h := (k 1).toInt.toNat) (by omega) (by omega) (by omega) (by omega) hp
  have e := ix hp hin
  rw [zz_nI x (by omega), zz_nI y (by omega)] at e
  obtain ⟨M', a1, a2, a3⟩ := w_w h (i := nI y * 12 + nI x) (by omega) (by omega) v
  rw [e, show ((12 * (y : Int) + x).toNat) = 12 * y + x by omega] at a2
  refine ⟨M', ?_, a2, a3⟩
  simp only [ff_X1_wantInField, c_p h, p_has1 h hin, g_p0 h, a1, Option.bind_some]
  rw [if_neg (by decide)]
end RD
