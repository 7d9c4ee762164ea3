/-! the history's, the class's and the reference's beginnings -/
def HP (M : mm_M) (a i : Nat) : Prop := M a = some (.inl (0, [.ref (a + 1), .int 0])) ∧ (∃ f : Nat → Option Nat, M (a + 1) = some (.inr (3, 5, .inr f)) ∧ ∀ j, j < i → f j = some (a + 2 + 28 * j)) ∧ ∀ j, j < i → St M (a + 2 + 28 * j) k0
theorem x_0s {M : mm_M} {a i p p1 : Nat} (h : HP M a i) (hi : i < 5) (hp : p = a + 2 + 28 * i) (hp1 : p1 = p + 1) {I : Int32} (eI : I.toInt = i) : ∃ M', (∀ K : mm_M → Option mm_M, (Option.bind (mm_gR 0 M a 0) fun v7 => Option.bind (mm_ln M v7) fun v8 => if v8 ≤ I then none else (Option.bind (mm_gR 0 M a 0) fun v9 => Option.bind (mm_nO 2 [.null, .null, .null, .int 0] p M) fun M10 => Option.bind (ff_X2_init p1 M10 p) fun M11 => Option.bind (mm_sR 3 2 M11 v9 I p) K)) = K M') ∧ HP M' a (i + 1) ∧ Fa a M M' := by
  subst hp; subst hp1
  obtain ⟨h1, ⟨f, h2, h3⟩, h4⟩ := h
  obtain ⟨M1, a1, a2, a3⟩ := o_nO 2 [.null, .null, .null, .int 0] (a + 2 + 28 * i) M
  obtain ⟨M2, b1, b2, b3⟩ := x_2 a2
  have hq : M2 (a + 1) = some (.inr (3, 5, .inr f)) := by rw [b3 _ (by omega), a3 _ (by omega)]; exact h2
  have hs : mm_sR 3 2 M2 (a + 1) I (a + 2 + 28 * i) = some (mm_up M2 (a + 1) (.inr (3, 5, .inr (va_up f i (some (a + 2 + 28 * i)))))) := by
    have hck : mm_ck 2 M2 (a + 2 + 28 * i) = some () := c_s b2
    have hcl : I.toNatClampNeg = i := by rw [zz_cl]; omega
    unfold mm_sR
    rw [hq]
    simp only [hck, hcl]
    rw [if_pos ⟨trivial, by omega, by omega, trivial⟩]
  have fr : ∀ q, q ≠ a + 1 → (q < a + 2 + 28 * i ∨ a + 2 + 28 * i + 28 ≤ q) → mm_up M2 (a + 1) (.inr (3, 5, .inr (va_up f i (some (a + 2 + 28 * i))))) q = M q := fun q q1 q2 => by rw [mm_up_n _ _ q1, b3 q q2, a3 q (by omega)]
  refine ⟨_, fun K => ?_, ⟨by rw [fr _ (by omega) (by omega)]; exact h1, ⟨_, mm_up_s _ _ _, fun j hj => ?_⟩, fun j hj => ?_⟩, fun q hq => fr q (by omega) (by omega)⟩
  · have r1 : mm_gR 0 M a 0 = some (a + 1) := rR h1 rfl
    have r2 : mm_ln M (a + 1) = some 5 := rL h2 (by decide)
    simp only [r1, r2, a1, b1, hs, Option.bind_some]
    rw [if_neg (by rw [zz_le, z5]; omega)]
  · unfold va_up
    by_cases hji : j = i
    · rw [if_pos hji, hji]
    · rw [if_neg hji]; exact h3 j (by omega)
  · by_cases hji : j = i
    · subst hji
      exact St_kept b2 (fun q q1 q2 => mm_up_n _ _ (by omega))
    · exact St_kept (h4 j (by omega)) (fun q q1 q2 => fr q (by omega) (by omega))
theorem x_0 {M : mm_M} {a : Nat} (h : M a = some (.inl (0, [.null, .int 0]))) : ∃ M', ff_X0_init (a + 1) M a = some M' ∧ Hi M' a 0 (fun i => i) (fun _ => k0) ∧ Fa a M M' := by
  obtain ⟨M1, a1, a2, a3⟩ := o_nR 3 5 (a + 1) M
  obtain ⟨M2, b1, b2, b3⟩ := o_pR (M := M1) (a := a) (by rw [a3 a (by omega)]; exact h) (k := 0) (by simp) (a + 1)
  have S0 : HP M2 a 0 := ⟨b2, ⟨fun _ => none, by rw [b3 _ (by omega), a2], fun j hj => by omega⟩, fun j hj => by omega⟩
  have fr0 : Fa a M M2 := fun q hq => by rw [b3 _ (by omega), a3 _ (by omega)]
  obtain ⟨N0, s0, S1, t0⟩ := x_0s (p := a + 1 + 1) (p1 := a + 1 + 2) (I := 0) S0 (by omega) (by omega) (by omega) rfl
  obtain ⟨N1, s1, S2, t1⟩ := x_0s (p := a + 1 + 29) (p1 := a + 1 + 30) (I := 1) S1 (by omega) (by omega) (by omega) rfl
  obtain ⟨N2, s2, S3, t2⟩ := x_0s (p := a + 1 + 57) (p1 := a + 1 + 58) (I := 2) S2 (by omega) (by omega) (by omega) rfl
  obtain ⟨N3, s3, S4, t3⟩ := x_0s (p := a + 1 + 85) (p1 := a + 1 + 86) (I := 3) S3 (by omega) (by omega) (by omega) rfl
  obtain ⟨N4, s4, S5, t4⟩ := x_0s (p := a + 1 + 113) (p1 := a + 1 + 114) (I := 4) S4 (by omega) (by omega) (by omega) rfl
  have r1 : mm_gR 0 N4 a 0 = some (a + 1) := rR S5.1 rfl
  obtain ⟨w1, ⟨f, w2, w3⟩, w4⟩ := S5
  have r2 : mm_ln N4 (a + 1) = some 5 := rL w2 (by decide)
  refine ⟨N4, ?_, ⟨w1, ⟨f, w2, w3⟩, fun i hi => hi, fun i j _ _ q => q, w4⟩, Fa_tr fr0 (Fa_tr t0 (Fa_tr t1 (Fa_tr t2 (Fa_tr t3 t4))))⟩
  unfold ff_X0_init
  rw [a1, Option.bind_some, b1, Option.bind_some]
  rw [s0, s1, s2, s3, s4, r1, Option.bind_some, r2, Option.bind_some, if_pos (by decide)]
theorem x_6 {M : mm_M} {b : Nat} (h : M b = some (.inl (6, [.null, .null, .null, .null]))) : ∃ M', ff_X6_init (b + 1) M b = some M' ∧ Ci M' b k0 0 (fun _ => k0) 0 (fun _ => 0) ∧ Fb b M M' := by
  obtain ⟨M1, a1, a2, a3⟩ := o_nO 2 [.null, .null, .null, .int 0] (b + 1) M
  obtain ⟨M2, b1, b2, b3⟩ := x_2 a2
  obtain ⟨M3, c1, c2, c3⟩ := o_pR (M := M2) (a := b) (by rw [b3 _ (by omega), a3 _ (by omega)]; exact h) (k := 0) (by simp) (b + 1)
  obtain ⟨M4, d1, d2, d3⟩ := o_nO 2 [.null, .null, .null, .int 0] (b + 29) M3
  obtain ⟨M5, e1, e2, e3⟩ := x_2 d2
  obtain ⟨M6, f1, f2, f3⟩ := o_pR (M := M5) (a := b) (by rw [e3 _ (by omega), d3 _ (by omega)]; exact c2) (k := 1) (by simp) (b + 29)
  obtain ⟨M7, g1, g2, g3⟩ := o_nO 0 [.null, .int 0] (b + 57) M6
  obtain ⟨M8, h1, h2, h3⟩ := x_0 g2
  obtain ⟨M9, i1, i2, i3⟩ := o_pR (M := M8) (a := b) (by rw [h3 _ (by omega), g3 _ (by omega)]; exact f2) (k := 2) (by simp) (b + 57)
  obtain ⟨M10, j1, j2, j3⟩ := o_nO 5 [.null, .int 0] (b + 199) M9
  obtain ⟨M11, k1, k2, k3, k4⟩ := x_5 (sz := b + 200) j2 (by omega)
  obtain ⟨M12, l1, l2, l3⟩ := o_pR (M := M11) (a := b) (by rw [k4 _ (by omega) (by omega), j3 _ (by omega)]; exact i2) (k := 3) (by simp) (b + 199)
  have lo : ∀ q, q ≠ b → q ≠ b + 199 → q ≠ b + 200 → M12 q = M8 q := fun q q1 q2 q3 => by rw [l3 _ q1, k4 _ q2 q3, j3 _ q2, i3 _ q1]
  have lo2 : ∀ q, q ≠ b → (q < b + 57 ∨ b + 201 ≤ q) → M12 q = M5 q := fun q q1 q2 => by rw [lo q q1 (by omega) (by omega), h3 _ (by omega), g3 _ (by omega), f3 _ q1]
  have lo3 : ∀ q, q ≠ b → (q < b + 29 ∨ b + 201 ≤ q) → M12 q = M2 q := fun q q1 q2 => by rw [lo2 q q1 (by omega), e3 _ (by omega), d3 _ (by omega), c3 _ q1]
  refine ⟨M12, ?_, ⟨l2, St_kept b2 (fun q q1 q2 => lo3 q (by omega) (by omega)), ⟨k0, St_kept e2 (fun q q1 q2 => lo2 q (by omega) (by omega))⟩, ⟨_, Hi_kept h2 (fun q q1 q2 => lo q (by omega) (by omega) (by omega))⟩, ?_, fun _ => 0, ?_, fun j hj => rfl⟩, fun q hq => ?_⟩
  · have b1' : ff_X2_init (b + 1 + 1) M1 (b + 1) = some M2 := b1
    have d1' : mm_nO 2 [.null, .null, .null, .int 0] (b + 1 + 28) M3 = some M4 := d1
    have e1' : ff_X2_init (b + 1 + 29) M4 (b + 1 + 28) = some M5 := e1
    have f1' : mm_pR 6 M5 b 1 (b + 1 + 28) = some M6 := f1
    have g1' : mm_nO 0 [.null, .int 0] (b + 1 + 56) M6 = some M7 := g1
    have h1' : ff_X0_init (b + 1 + 57) M7 (b + 1 + 56) = some M8 := h1
    have i1' : mm_pR 6 M8 b 2 (b + 1 + 56) = some M9 := i1
    have j1' : mm_nO 5 [.null, .int 0] (b + 1 + 198) M9 = some M10 := j1
    have k1' : ff_X5_init (b + 1 + 199) M10 (b + 1 + 198) = some M11 := k1
    have l1' : mm_pR 6 M11 b 3 (b + 1 + 198) = some M12 := l1
    unfold ff_X6_init
    rw [a1, Option.bind_some, b1', Option.bind_some, c1, Option.bind_some, d1', Option.bind_some, e1', Option.bind_some, f1', Option.bind_some, g1', Option.bind_some, h1', Option.bind_some, i1', Option.bind_some, j1', Option.bind_some, k1', Option.bind_some, l1', Option.bind_some]
  · rw [l3 _ (by omega)]; exact k2
  · rw [l3 _ (by omega)]; exact k3
  · rw [lo3 q (by omega) (by omega), b3 _ (by omega), a3 _ (by omega)]
def m0' : Nat → Int32 := pBm (upd (upd (upd (fun _ => 0) 2 20) 3 2) 4 1) 6 4
theorem x_7 {M : mm_M} {y : Nat} (h : M y = some (.inl (7, [.null, .null, .null, .int 0, .null, .int 0, .null, .int 0]))) : ∃ M', ff_X7_init (y + 1) M y = some M' ∧ Md M' y m0' (fun _ => 0) (fun _ => 0) (fun _ => 0) (fun _ => 0) 0 0 0 ∧ Fy y M M' := by
  obtain ⟨M1, a1, a2, a3⟩ := o_nI 0 518 (y + 1) M
  obtain ⟨M2, b1, b2, b3⟩ := o_pR (M := M1) (a := y) (by rw [a3 _ (by omega)]; exact h) (k := 0) (by simp) (y + 1)
  obtain ⟨M3, c1, c2, c3⟩ := o_nI 0 518 (y + 2) M2
  obtain ⟨M4, d1, d2, d3⟩ := o_pR (M := M3) (a := y) (by rw [c3 _ (by omega)]; exact b2) (k := 1) (by simp) (y + 2)
  obtain ⟨M5, e1, e2, e3⟩ := o_nI 0 2590 (y + 3) M4
  obtain ⟨M6, f1, f2, f3⟩ := o_pR (M := M5) (a := y) (by rw [e3 _ (by omega)]; exact d2) (k := 2) (by simp) (y + 3)
  obtain ⟨M7, g1, g2, g3⟩ := o_nI 0 80 (y + 4) M6
  obtain ⟨M8, h1, h2, h3⟩ := o_pR (M := M7) (a := y) (by rw [g3 _ (by omega)]; exact f2) (k := 4) (by simp) (y + 4)
  obtain ⟨M9, i1, i2, i3⟩ := o_nI 0 8 (y + 5) M8
  obtain ⟨M10, j1, j2, j3⟩ := o_pR (M := M9) (a := y) (by rw [i3 _ (by omega)]; exact h2) (k := 6) (by simp) (y + 5)
  have D : Md M10 y (fun _ => 0) (fun _ => 0) (fun _ => 0) (fun _ => 0) (fun _ => 0) 0 0 0 := by
    refine ⟨j2, ?_, ?_, ?_, ?_, ?_⟩
    · rw [j3 _ (by omega), i3 _ (by omega), h3 _ (by omega), g3 _ (by omega), f3 _ (by omega), e3 _ (by omega), d3 _ (by omega), c3 _ (by omega), b3 _ (by omega), a2]
    · rw [j3 _ (by omega), i3 _ (by omega), h3 _ (by omega), g3 _ (by omega), f3 _ (by omega), e3 _ (by omega), d3 _ (by omega), c2]
    · rw [j3 _ (by omega), i3 _ (by omega), h3 _ (by omega), g3 _ (by omega), f3 _ (by omega), e2]
    · rw [j3 _ (by omega), i3 _ (by omega), h3 _ (by omega), g2]
    · rw [j3 _ (by omega), i2]
  have fr : Fy y M M10 := fun q hq => by rw [j3 _ (by omega), i3 _ (by omega), h3 _ (by omega), g3 _ (by omega), f3 _ (by omega), e3 _ (by omega), d3 _ (by omega), c3 _ (by omega), b3 _ (by omega), a3 _ (by omega)]
  have H0 := D.mo
  have s2 := s_m H0 (i := 2) (n := 2) rfl (by omega) 20
  have H1 := Mo_w H0 (upd (fun _ => 0) 2 20)
  have s3 := s_m H1 (i := 3) (n := 3) rfl (by omega) 2
  rw [wm_wm] at s3
  have H2 := Mo_w H0 (upd (upd (fun _ => 0) 2 20) 3 2)
  have s4 := s_m H2 (i := 4) (n := 4) rfl (by omega) 1
  rw [wm_wm] at s4
  have H3 := Mo_w H0 (upd (upd (upd (fun _ => 0) 2 20) 3 2) 4 1)
  have sb := m_begin H3 6 4
  rw [wm_wm] at sb
  refine ⟨_, ?_, Md_wm D m0', Fy_tr fr (Fy_wm _ _ _)⟩
  have c1' : mm_nI 0 518 (y + 1 + 1) M2 = some M3 := c1
  have d1' : mm_pR 7 M3 y 1 (y + 1 + 1) = some M4 := d1
  have e1' : mm_nI 0 2590 (y + 1 + 2) M4 = some M5 := e1
  have f1' : mm_pR 7 M5 y 2 (y + 1 + 2) = some M6 := f1
  have g1' : mm_nI 0 80 (y + 1 + 3) M6 = some M7 := g1
  have h1' : mm_pR 7 M7 y 4 (y + 1 + 3) = some M8 := h1
  have i1' : mm_nI 0 8 (y + 1 + 4) M8 = some M9 := i1
  have j1' : mm_pR 7 M9 y 6 (y + 1 + 4) = some M10 := j1
  unfold ff_X7_init
  rw [a1, Option.bind_some, b1, Option.bind_some, c1', Option.bind_some, d1', Option.bind_some, e1', Option.bind_some, f1', Option.bind_some, g1', Option.bind_some, h1', Option.bind_some, i1', Option.bind_some, j1', Option.bind_some]
  simp only [n_m H0, s2, n_m H1, s3, n_m H2, s4, c_m H3, sb, Option.bind_some]
  rfl
theorem m0_lo {j : Nat} (h : j < 20 ∨ 308 ≤ j) : m0' j = k0 j := by
  unfold m0' pBm
  rw [cp2_o _ _ _ (by omega), cp2_o _ _ _ (by omega)]
  simp only [upd]
  unfold k0
  by_cases j0 : j = 0
  · rw [if_neg (by omega), if_pos j0, if_pos j0]
  · by_cases j1 : j = 1
    · rw [if_pos j1, if_neg j0, if_pos j1]
    · rw [if_neg j1, if_neg j0, if_neg j0, if_neg j1]
      by_cases j4 : j = 4
      · rw [if_pos j4, if_neg (by omega), if_neg (by omega), if_pos j4]
      · rw [if_neg j4]
        by_cases j3 : j = 3
        · rw [if_pos j3, if_neg (by omega), if_pos j3]
        · rw [if_neg j3]
          by_cases j2 : j = 2
          · rw [if_pos j2, if_pos j2]
          · rw [if_neg j2, if_neg j2, if_neg j3, if_neg j4, if_neg (by omega), if_neg (by omega)]
theorem PR_0 : PR k0 m0' ∧ IP 0 k0 := by
  have e0 : k0 0 = 6 := rfl
  have e1 : k0 1 = 4 := rfl
  have e4 : k0 4 = 1 := rfl
  have z6 : (6 : Int32).toInt = 6 := rfl
  refine ⟨⟨fun j hj => m0_lo (by omega), fun j h1 h2 => m0_lo (by omega), fun j hj => ?_, fun x y hx hy => ?_, fun x y hx hy => ?_⟩, ?_, ?_, ?_, ?_⟩
  · rw [e4, z1] at hj
    exact m0_lo (by omega)
  · rw [e0, z6] at hx ⊢
    rw [e1, z4] at hy
    rw [show Int.toNat 6 = 6 from rfl]
    rw [k0_w (by omega)]
    unfold m0' pBm
    rw [cp2_o _ _ _ (by omega), cp2_i 20 (fun _ => 50) _ (by omega)]
  · rw [e0, z6] at hx ⊢
    rw [e1, z4] at hy
    rw [show Int.toNat 6 = 6 from rfl]
    rw [k0_l (by omega)]
    unfold m0' pBm
    rw [cp2_i 164 (fun _ => -1) _ (by omega)]
  · unfold Rp
    decide
  · refine ⟨fun j hj => by rw [k0_l hj]; decide, fun x y hx hy _ => k0_l (by omega), fun j hj => by rw [k0_w hj]; decide, fun j hj => ?_⟩
    rw [e4, z1] at hj
    rw [k0_z (by omega)]
    decide
  · refine ⟨by decide, by decide, by decide, fun i hi => ?_⟩
    rw [k0_z (by omega), k0_z (by omega), k0_z (by omega), k0_z (by omega)]
    refine ⟨by decide, by decide, by decide, by decide, fun _ => rfl⟩
  · intro s hs
    rw [k0_z (by omega)]
    decide
theorem IV_0 {b : Nat} {M : mm_M} (hC : Ci M b k0 0 (fun _ => k0) 0 (fun _ => 0)) (hD : Md M (b + 201) m0' (fun _ => 0) (fun _ => 0) (fun _ => 0) (fun _ => 0) 0 0 0) : IV 0 b M :=
  ⟨k0, 0, fun _ => k0, m0', fun _ => 0, fun _ => 0, fun _ => 0, fun _ => 0, 0, 0, hC, hD, PR_0.1, PR_0.2, by omega, by omega, fun i hi => by omega⟩
