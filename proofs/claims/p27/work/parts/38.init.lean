/-! what the constructors make -/
theorem o_nI (t n sz : Nat) (M : mm_M) : ∃ M', mm_nI t n sz M = some M' ∧ M' sz = some (.inr (t, n, .inl (fun _ => 0))) ∧ ∀ q, q ≠ sz → M' q = M q := ⟨_, rfl, mm_up_s _ _ _, fun _ h => mm_up_n _ _ h⟩
theorem o_nR (t n sz : Nat) (M : mm_M) : ∃ M', mm_nR t n sz M = some M' ∧ M' sz = some (.inr (t, n, .inr (fun _ => none))) ∧ ∀ q, q ≠ sz → M' q = M q := ⟨_, rfl, mm_up_s _ _ _, fun _ h => mm_up_n _ _ h⟩
theorem o_nO (ci : Nat) (fs : List Value) (sz : Nat) (M : mm_M) : ∃ M', mm_nO ci fs sz M = some M' ∧ M' sz = some (.inl (ci, fs)) ∧ ∀ q, q ≠ sz → M' q = M q := ⟨_, rfl, mm_up_s _ _ _, fun _ h => mm_up_n _ _ h⟩
theorem o_pR {ci : Nat} {M : mm_M} {a k : Nat} {fs : List Value} (h : M a = some (.inl (ci, fs))) (hk : k < fs.length) (x : Nat) : ∃ M', mm_pR ci M a k x = some M' ∧ M' a = some (.inl (ci, fs.set k (.ref x))) ∧ ∀ q, q ≠ a → M' q = M q := ⟨_, by simp [mm_pR, h, hk], mm_up_s _ _ _, fun _ h => mm_up_n _ _ h⟩
theorem o_pI {ci : Nat} {M : mm_M} {a k : Nat} {fs : List Value} (h : M a = some (.inl (ci, fs))) (hk : k < fs.length) (x : Int32) : ∃ M', mm_pI ci M a k x = some M' ∧ M' a = some (.inl (ci, fs.set k (.int x))) ∧ ∀ q, q ≠ a → M' q = M q := ⟨_, wI h hk, mm_up_s _ _ _, fun _ h => mm_up_n _ _ h⟩
theorem x_4 {M : mm_M} {x sz : Nat} (h : M x = some (.inl (4, [.null, .int 0, .int 0, .int 0, .int 0, .int 0]))) (hne : x ≠ sz) : ∃ M', ff_X4_init sz M x = some M' ∧ M' x = some (.inl (4, [.ref sz, .int 0, .int 0, .int 0, .int 0, .int 0])) ∧ M' sz = some (.inr (0, 6, .inl (fun _ => 0))) ∧ ∀ q, q ≠ x → q ≠ sz → M' q = M q := by
  obtain ⟨M1, a1, a2, a3⟩ := o_nI 0 6 sz M
  obtain ⟨M2, b1, b2, b3⟩ := o_pR (M := M1) (by rw [a3 x hne]; exact h) (k := 0) (by simp) sz
  exact ⟨M2, by simp only [ff_X4_init, a1, b1, Option.bind_some], b2, by rw [b3 sz (Ne.symm hne), a2], fun q h1 h2 => by rw [b3 q h1, a3 q h2]⟩
theorem x_5 {M : mm_M} {x sz : Nat} (h : M x = some (.inl (5, [.null, .int 0]))) (hne : x ≠ sz) : ∃ M', ff_X5_init sz M x = some M' ∧ M' x = some (.inl (5, [.ref sz, .int 0])) ∧ M' sz = some (.inr (1, 80, .inl (fun _ => 0))) ∧ ∀ q, q ≠ x → q ≠ sz → M' q = M q := by
  obtain ⟨M1, a1, a2, a3⟩ := o_nI 1 80 sz M
  obtain ⟨M2, b1, b2, b3⟩ := o_pR (M := M1) (by rw [a3 x hne]; exact h) (k := 0) (by simp) sz
  exact ⟨M2, by simp only [ff_X5_init, a1, b1, Option.bind_some], b2, by rw [b3 sz (Ne.symm hne), a2], fun q h1 h2 => by rw [b3 q h1, a3 q h2]⟩
theorem x_1 {M : mm_M} {x sz : Nat} (h : M x = some (.inl (1, [.null, .null, .int 0, .int 0, .int 0, .int 0]))) (hne : x < sz) : ∃ M', ff_X1_init sz M x = some M' ∧ M' x = some (.inl (1, [.ref sz, .ref (sz + 1), .int 1, .int 0, .int 6, .int 4])) ∧ (∃ g, M' sz = some (.inr (0, 144, .inl g)) ∧ ∀ j, j < 144 → g j = 50) ∧ M' (sz + 1) = some (.inr (0, 8, .inl (fun _ => 0))) ∧ ∀ q, q ≠ x → q ≠ sz → q ≠ sz + 1 → M' q = M q := by
  obtain ⟨M1, a1, a2, a3⟩ := o_nI 0 144 sz M
  obtain ⟨M2, b1, b2, b3⟩ := o_pR (M := M1) (by rw [a3 x (by omega)]; exact h) (k := 0) (by simp) sz
  obtain ⟨M3, c1, c2, c3⟩ := o_nI 0 8 (sz + 1) M2
  obtain ⟨M4, d1, d2, d3⟩ := o_pR (M := M3) (by rw [c3 x (by omega)]; exact b2) (k := 1) (by simp) (sz + 1)
  obtain ⟨M5, e1, e2, e3⟩ := o_pI d2 (k := 2) (by simp) 1
  obtain ⟨M6, f1, f2, f3⟩ := o_pI e2 (k := 3) (by simp) 0
  obtain ⟨M7, g1, g2, g3⟩ := o_pI f2 (k := 4) (by simp) 6
  obtain ⟨M8, h1, h2, h3⟩ := o_pI g2 (k := 5) (by simp) 4
  have hsz : M8 sz = some (.inr (0, 144, .inl (fun _ => 0))) := by rw [h3 _ (by omega), g3 _ (by omega), f3 _ (by omega), e3 _ (by omega), d3 _ (by omega), c3 _ (by omega), b3 _ (by omega), a2]
  have hsz1 : M8 (sz + 1) = some (.inr (0, 8, .inl (fun _ => 0))) := by rw [h3 _ (by omega), g3 _ (by omega), f3 _ (by omega), e3 _ (by omega), d3 _ (by omega), c2]
  obtain ⟨g, i1, i2⟩ := fill_ok 50 hsz (by omega)
  refine ⟨mm_up M8 sz (.inr (0, 144, .inl g)), ?_, by rw [mm_up_n _ _ (by omega)]; exact h2, ⟨g, mm_up_s _ _ _, i2⟩, by rw [mm_up_n _ _ (by omega)]; exact hsz1, fun q q1 q2 q3 => by rw [mm_up_n _ _ q2, h3 _ q1, g3 _ q1, f3 _ q1, e3 _ q1, d3 _ q1, c3 _ q3, b3 _ q1, a3 _ q2]⟩
  have r6 : mm_ck 1 M6 x = some () := rC f2
  have r8 : mm_gR 1 M8 x 0 = some sz := rR h2 rfl
  simp only [ff_X1_init, ff_X1_begin, a1, b1, c1, d1, e1, f1, r6, g1, h1, r8, i1, Option.bind_some]
/-- the stock, i of its strips made -/
def SP (M : mm_M) (x sz i : Nat) : Prop := M x = some (.inl (3, [.ref sz, .ref (sz + 1), .int 0, .int 20, .int 2, .int 0, .int 0, .int 0, .int 0])) ∧ (∃ f : Nat → Option Nat, M sz = some (.inr (2, 10, .inr f)) ∧ ∀ j, j < i → f j = some (sz + 2 + 2 * j)) ∧
  (∀ j, j < i → M (sz + 2 + 2 * j) = some (.inl (4, [.ref (sz + 3 + 2 * j), .int 0, .int 0, .int 0, .int 0, .int 0])) ∧ M (sz + 3 + 2 * j) = some (.inr (0, 6, .inl (fun _ => 0)))) ∧ M (sz + 1) = some (.inr (0, 100, .inl (fun _ => 0)))
theorem x_3s {M : mm_M} {x sz i p p1 : Nat} (h : SP M x sz i) (hx : x < sz) (hi : i < 10) (hp : p = sz + 2 + 2 * i) (hp1 : p1 = sz + 3 + 2 * i) {I : Int32} (eI : I.toInt = i) : ∃ M', (∀ K : mm_M → Option mm_M, (Option.bind (mm_gR 3 M x 0) fun v7 => Option.bind (mm_ln M v7) fun v8 => if v8 ≤ I then none else (Option.bind (mm_gR 3 M x 0) fun v9 => Option.bind (mm_nO 4 [.null, .int 0, .int 0, .int 0, .int 0, .int 0] p M) fun M10 => Option.bind (ff_X4_init p1 M10 p) fun M11 => Option.bind (mm_sR 2 4 M11 v9 I p) K)) = K M') ∧ SP M' x sz (i + 1) ∧ ∀ q, q ≠ sz → q ≠ p → q ≠ p1 → M' q = M q := by
  subst hp; subst hp1
  obtain ⟨h1, ⟨f, h2, h3⟩, h4, h5⟩ := h
  obtain ⟨M1, a1, a2, a3⟩ := o_nO 4 [.null, .int 0, .int 0, .int 0, .int 0, .int 0] (sz + 2 + 2 * i) M
  obtain ⟨M2, b1, b2, b3, b4⟩ := x_4 a2 (show sz + 2 + 2 * i ≠ sz + 3 + 2 * i by omega)
  have hq : M2 sz = some (.inr (2, 10, .inr f)) := by rw [b4 _ (by omega) (by omega), a3 _ (by omega)]; exact h2
  have hs : mm_sR 2 4 M2 sz I (sz + 2 + 2 * i) = some (mm_up M2 sz (.inr (2, 10, .inr (va_up f i (some (sz + 2 + 2 * i)))))) := by
    have hck : mm_ck 4 M2 (sz + 2 + 2 * i) = some () := rC b2
    have hcl : I.toNatClampNeg = i := by rw [zz_cl]; omega
    unfold mm_sR
    rw [hq]
    simp only [hck, hcl]
    rw [if_pos ⟨trivial, by omega, by omega, trivial⟩]
  have fr : ∀ q, q ≠ sz → q ≠ sz + 2 + 2 * i → q ≠ sz + 3 + 2 * i → mm_up M2 sz (.inr (2, 10, .inr (va_up f i (some (sz + 2 + 2 * i))))) q = M q := fun q q1 q2 q3 => by rw [mm_up_n _ _ q1, b4 q q2 q3, a3 q q2]
  refine ⟨_, fun K => ?_, ⟨by rw [fr _ (by omega) (by omega) (by omega)]; exact h1, ⟨_, mm_up_s _ _ _, fun j hj => ?_⟩, fun j hj => ?_, by rw [fr _ (by omega) (by omega) (by omega)]; exact h5⟩, fr⟩
  · have r1 : mm_gR 3 M x 0 = some sz := rR h1 rfl
    have r2 : mm_ln M sz = some 10 := rL h2 (by decide)
    simp only [r1, r2, a1, b1, hs, Option.bind_some]
    rw [if_neg (by rw [zz_le, z10]; omega)]
  · unfold va_up
    by_cases hji : j = i
    · rw [if_pos hji, hji]
    · rw [if_neg hji]; exact h3 j (by omega)
  · by_cases hji : j = i
    · subst hji
      exact ⟨by rw [mm_up_n _ _ (by omega)]; exact b2, by rw [mm_up_n _ _ (by omega)]; exact b3⟩
    · obtain ⟨w1, w2⟩ := h4 j (by omega)
      exact ⟨by rw [fr _ (by omega) (by omega) (by omega)]; exact w1, by rw [fr _ (by omega) (by omega) (by omega)]; exact w2⟩
theorem x_3 {M : mm_M} {x sz : Nat} (h : M x = some (.inl (3, [.null, .null, .int 0, .int 0, .int 0, .int 0, .int 0, .int 0, .int 0]))) (hx : x < sz) : ∃ M', ff_X3_init sz M x = some M' ∧ SP M' x sz 10 ∧ ∀ q, q ≠ x → (q < sz ∨ sz + 22 ≤ q) → M' q = M q := by
  obtain ⟨M1, a1, a2, a3⟩ := o_nR 2 10 sz M
  obtain ⟨M2, b1, b2, b3⟩ := o_pR (M := M1) (by rw [a3 x (by omega)]; exact h) (k := 0) (by simp) sz
  obtain ⟨M3, c1, c2, c3⟩ := o_nI 0 100 (sz + 1) M2
  obtain ⟨M4, d1, d2, d3⟩ := o_pR (M := M3) (by rw [c3 x (by omega)]; exact b2) (k := 1) (by simp) (sz + 1)
  obtain ⟨M5, e1, e2, e3⟩ := o_pI d2 (k := 3) (by simp) 20
  obtain ⟨M6, f1, f2, f3⟩ := o_pI e2 (k := 4) (by simp) 2
  have S0 : SP M6 x sz 0 := ⟨f2, ⟨fun _ => none, by rw [f3 _ (by omega), e3 _ (by omega), d3 _ (by omega), c3 _ (by omega), b3 _ (by omega), a2], fun j hj => by omega⟩, fun j hj => by omega, by rw [f3 _ (by omega), e3 _ (by omega), d3 _ (by omega), c2]⟩
  have fr0 : ∀ q, q ≠ x → (q < sz ∨ sz + 22 ≤ q) → M6 q = M q := fun q q1 q2 => by rw [f3 _ q1, e3 _ q1, d3 _ q1, c3 _ (by omega), b3 _ q1, a3 _ (by omega)]
  obtain ⟨N0, s0, S1, t0⟩ := x_3s (p := sz + 2) (p1 := sz + 3) (I := 0) S0 hx (by omega) (by omega) (by omega) rfl
  obtain ⟨N1, s1, S2, t1⟩ := x_3s (p := sz + 4) (p1 := sz + 5) (I := 1) S1 hx (by omega) (by omega) (by omega) rfl
  obtain ⟨N2, s2, S3, t2⟩ := x_3s (p := sz + 6) (p1 := sz + 7) (I := 2) S2 hx (by omega) (by omega) (by omega) rfl
  obtain ⟨N3, s3, S4, t3⟩ := x_3s (p := sz + 8) (p1 := sz + 9) (I := 3) S3 hx (by omega) (by omega) (by omega) rfl
  obtain ⟨N4, s4, S5, t4⟩ := x_3s (p := sz + 10) (p1 := sz + 11) (I := 4) S4 hx (by omega) (by omega) (by omega) rfl
  obtain ⟨N5, s5, S6, t5⟩ := x_3s (p := sz + 12) (p1 := sz + 13) (I := 5) S5 hx (by omega) (by omega) (by omega) rfl
  obtain ⟨N6, s6, S7, t6⟩ := x_3s (p := sz + 14) (p1 := sz + 15) (I := 6) S6 hx (by omega) (by omega) (by omega) rfl
  obtain ⟨N7, s7, S8, t7⟩ := x_3s (p := sz + 16) (p1 := sz + 17) (I := 7) S7 hx (by omega) (by omega) (by omega) rfl
  obtain ⟨N8, s8, S9, t8⟩ := x_3s (p := sz + 18) (p1 := sz + 19) (I := 8) S8 hx (by omega) (by omega) (by omega) rfl
  obtain ⟨N9, s9, S10, t9⟩ := x_3s (p := sz + 20) (p1 := sz + 21) (I := 9) S9 hx (by omega) (by omega) (by omega) rfl
  refine ⟨N9, ?_, S10, fun q q1 q2 => by rw [t9 _ (by omega) (by omega) (by omega), t8 _ (by omega) (by omega) (by omega), t7 _ (by omega) (by omega) (by omega), t6 _ (by omega) (by omega) (by omega), t5 _ (by omega) (by omega) (by omega), t4 _ (by omega) (by omega) (by omega), t3 _ (by omega) (by omega) (by omega), t2 _ (by omega) (by omega) (by omega), t1 _ (by omega) (by omega) (by omega), t0 _ (by omega) (by omega) (by omega), fr0 q q1 q2]⟩
  have r1 : mm_gR 3 N9 x 0 = some sz := rR S10.1 rfl
  have r2 : mm_ln N9 sz = some 10 := by obtain ⟨-, ⟨f, h2, -⟩, -⟩ := S10; exact rL h2 (by decide)
  unfold ff_X3_init
  rw [a1, Option.bind_some, b1, Option.bind_some, c1, Option.bind_some, d1, Option.bind_some, e1, Option.bind_some, f1, Option.bind_some]
  rw [s0, s1, s2, s3, s4, s5, s6, s7, s8, s9, r1, Option.bind_some, r2, Option.bind_some, if_pos (by decide)]
/-- the page at the beginning -/
def k0 : Nat → Int32 := fun j => if j = 0 then 6 else if j = 1 then 4 else if j = 2 then 20 else if j = 3 then 2 else if j = 4 then 1 else if 20 ≤ j ∧ j < 164 then 50 else if 164 ≤ j ∧ j < 308 then -1 else 0
theorem k0_w {j : Nat} (h : j < 144) : k0 (20 + j) = 50 := by
  unfold k0
  rw [if_neg (by omega), if_neg (by omega), if_neg (by omega), if_neg (by omega), if_neg (by omega), if_pos (by omega)]
theorem k0_l {j : Nat} (h : j < 144) : k0 (164 + j) = -1 := by
  unfold k0
  rw [if_neg (by omega), if_neg (by omega), if_neg (by omega), if_neg (by omega), if_neg (by omega), if_neg (by omega), if_pos (by omega)]
theorem k0_z {j : Nat} (h : (5 ≤ j ∧ j < 20) ∨ 308 ≤ j) : k0 j = 0 := by
  unfold k0
  rw [if_neg (by omega), if_neg (by omega), if_neg (by omega), if_neg (by omega), if_neg (by omega), if_neg (by omega), if_neg (by omega)]
theorem x_2 {M : mm_M} {z : Nat} (h : M z = some (.inl (2, [.null, .null, .null, .int 0]))) : ∃ M', ff_X2_init (z + 1) M z = some M' ∧ St M' z k0 ∧ Fz z M M' := by
  obtain ⟨M1, a1, a2, a3⟩ := o_nO 1 [.null, .null, .int 0, .int 0, .int 0, .int 0] (z + 1) M
  obtain ⟨M2, b1, b2, ⟨g, b3, b4⟩, b5, b6⟩ := x_1 (sz := z + 2) a2 (by omega)
  obtain ⟨M3, c1, c2, c3⟩ := o_pR (M := M2) (a := z) (by rw [b6 _ (by omega) (by omega) (by omega), a3 _ (by omega)]; exact h) (k := 0) (by simp) (z + 1)
  obtain ⟨M4, d1, d2, d3⟩ := o_nO 3 [.null, .null, .int 0, .int 0, .int 0, .int 0, .int 0, .int 0, .int 0] (z + 4) M3
  obtain ⟨M5, e1, e2, e3⟩ := x_3 (sz := z + 5) d2 (by omega)
  obtain ⟨M6, f1, f2, f3⟩ := o_pR (M := M5) (a := z) (by rw [e3 _ (by omega) (by omega), d3 _ (by omega)]; exact c2) (k := 1) (by simp) (z + 4)
  obtain ⟨M7, g1, g2, g3⟩ := o_nI 0 144 (z + 27) M6
  obtain ⟨M8, h1, h2, h3⟩ := o_pR (M := M7) (a := z) (by rw [g3 _ (by omega)]; exact f2) (k := 2) (by simp) (z + 27)
  obtain ⟨l, i1, i2⟩ := fill_ok (M := M8) (a := z + 27) (-1) (by rw [h3 _ (by omega)]; exact g2) (by omega)
  obtain ⟨p1, ⟨f, p2, p3⟩, p4, p5⟩ := e2
  have lo : ∀ q, q ≠ z → q ≠ z + 27 → mm_up M8 (z + 27) (.inr (0, 144, .inl l)) q = M5 q := fun q q1 q2 => by rw [mm_up_n _ _ q2, h3 _ q1, g3 _ q2, f3 _ q1]
  have lo2 : ∀ q, q ≠ z → q ≠ z + 27 → q ≠ z + 4 → (q < z + 5 ∨ z + 27 ≤ q) → mm_up M8 (z + 27) (.inr (0, 144, .inl l)) q = M2 q := fun q q1 q2 q3 q4 => by rw [lo q q1 q2, e3 _ q3 (by omega), d3 _ q3, c3 _ q1]
  refine ⟨mm_up M8 (z + 27) (.inr (0, 144, .inl l)), ?_, ⟨?_, ?_, ⟨g, ?_, ?_⟩, ⟨fun _ => 0, ?_, ?_⟩, ?_, ⟨f, ?_, ?_⟩, ⟨fun _ => 0, ?_, ?_⟩, ⟨l, mm_up_s _ _ _, ?_⟩, ?_⟩, ?_⟩
  · have r : mm_gR 2 M8 z 2 = some (z + 27) := rR h2 rfl
    have b1' : ff_X1_init (z + 1 + 1) M1 (z + 1) = some M2 := b1
    have d1' : mm_nO 3 [.null, .null, .int 0, .int 0, .int 0, .int 0, .int 0, .int 0, .int 0] (z + 1 + 3) M3 = some M4 := d1
    have e1' : ff_X3_init (z + 1 + 4) M4 (z + 1 + 3) = some M5 := e1
    have f1' : mm_pR 2 M5 z 1 (z + 1 + 3) = some M6 := f1
    have g1' : mm_nI 0 144 (z + 1 + 26) M6 = some M7 := g1
    have h1' : mm_pR 2 M7 z 2 (z + 1 + 26) = some M8 := h1
    unfold ff_X2_init
    rw [a1, Option.bind_some, b1', Option.bind_some, c1, Option.bind_some, d1', Option.bind_some, e1', Option.bind_some, f1', Option.bind_some, g1', Option.bind_some, h1', Option.bind_some, r, Option.bind_some, i1, Option.bind_some]
  · rw [mm_up_n _ _ (by omega)]; exact h2
  · rw [lo2 _ (by omega) (by omega) (by omega) (by omega)]; exact b2
  · rw [lo2 _ (by omega) (by omega) (by omega) (by omega)]; exact b3
  · intro j hj; rw [b4 j hj, k0_w hj]
  · rw [lo2 _ (by omega) (by omega) (by omega) (by omega)]; exact b5
  · intro j hj; rw [k0_z (by omega)]
  · rw [lo _ (by omega) (by omega)]; exact p1
  · rw [lo _ (by omega) (by omega)]; exact p2
  · intro i hi; rw [p3 i hi]
  · rw [lo _ (by omega) (by omega)]; exact p5
  · intro j hj; rw [k0_z (by omega)]
  · intro j hj; rw [i2 j hj, k0_l hj]
  · intro i hi
    obtain ⟨w1, w2⟩ := p4 i hi
    have ea : z + 7 + 2 * i = z + 5 + 2 + 2 * i := by omega
    have eb : z + 8 + 2 * i = z + 5 + 3 + 2 * i := by omega
    refine ⟨?_, fun _ => 0, ?_, fun j hj => ?_⟩
    · rw [lo _ (by omega) (by omega), ea, w1, k0_z (by omega), k0_z (by omega), k0_z (by omega), k0_z (by omega), k0_z (by omega), eb]
    · rw [lo _ (by omega) (by omega), eb, w2]
    · rw [k0_z (by omega)]
  · intro q hq
    rw [lo2 _ (by omega) (by omega) (by omega) (by omega), b6 _ (by omega) (by omega) (by omega), a3 _ (by omega)]
/-! the history's, the class's and the reference's beginnings -/
def HP (M : mm_M) (a i : Nat) : Prop := M a = some (.inl (0, [.ref (a + 1), .int 0])) ∧ (∃ f : Nat → Option Nat, M (a + 1) = some (.inr (3, 5, .inr f)) ∧ ∀ j, j < i → f j = some (a + 2 + 28 * j)) ∧ ∀ j, j < i → St M (a + 2 + 28 * j) k0
theorem x_0s {M : mm_M} {a i p p1 : Nat} (h : HP M a i) (hi : i < 5) (hp : p = a + 2 + 28 * i) (hp1 : p1 = p + 1) {I : Int32} (eI : I.toInt = i) : ∃ M', (∀ K : mm_M → Option mm_M, (Option.bind (mm_gR 0 M a 0) fun v7 => Option.bind (mm_ln M v7) fun v8 => if v8 ≤ I then none else (Option.bind (mm_gR 0 M a 0) fun v9 => Option.bind (mm_nO 2 [.null, .null, .null, .int 0] p M) fun M10 => Option.bind (ff_X2_init p1 M10 p) fun M11 => Option.bind (mm_sR 3 2 M11 v9 I p) K)) = K M') ∧ HP M' a (i + 1) ∧ Fa a M M' := by
  subst hp; subst hp1
  obtain ⟨h1, ⟨f, h2, h3⟩, h4⟩ := h
  obtain ⟨M1, a1, a2, a3⟩ := o_nO 2 [.null, .null, .null, .int 0] (a + 2 + 28 * i) M
  obtain ⟨M2, b1, b2, b3⟩ := x_2 a2
  have hq : M2 (a + 1) = some (.inr (3, 5, .inr f)) := by rw [b3 _ (by omega), a3 _ (by omega)]; exact h2
  have hs : mm_sR 3 2 M2 (a + 1) I (a + 2 + 28 * i) = some (mm_up M2 (a + 1) (.inr (3, 5, .inr (va_up f i (some (a + 2 + 28 * i)))))) := by
    have hck : mm_ck 2 M2 (a + 2 + 28 * i) = some () := c_s b2
    have hcl : I.toNatClampNeg = i := by rw [zz_cl]; omega
    unfold mm_sR
    rw [hq]
    simp only [hck, hcl]
    rw [if_pos ⟨trivial, by omega, by omega, trivial⟩]
  have fr : ∀ q, q ≠ a + 1 → (q < a + 2 + 28 * i ∨ a + 2 + 28 * i + 28 ≤ q) → mm_up M2 (a + 1) (.inr (3, 5, .inr (va_up f i (some (a + 2 + 28 * i))))) q = M q := fun q q1 q2 => by rw [mm_up_n _ _ q1, b3 q q2, a3 q (by omega)]
  refine ⟨_, fun K => ?_, ⟨by rw [fr _ (by omega) (by omega)]; exact h1, ⟨_, mm_up_s _ _ _, fun j hj => ?_⟩, fun j hj => ?_⟩, fun q hq => fr q (by omega) (by omega)⟩
  · have r1 : mm_gR 0 M a 0 = some (a + 1) := rR h1 rfl
    have r2 : mm_ln M (a + 1) = some 5 := rL h2 (by decide)
    simp only [r1, r2, a1, b1, hs, Option.bind_some]
    rw [if_neg (by rw [zz_le, z5]; omega)]
  · unfold va_up
    by_cases hji : j = i
    · rw [if_pos hji, hji]
    · rw [if_neg hji]; exact h3 j (by omega)
  · by_cases hji : j = i
    · subst hji
      exact St_kept b2 (fun q q1 q2 => mm_up_n _ _ (by omega))
    · exact St_kept (h4 j (by omega)) (fun q q1 q2 => fr q (by omega) (by omega))
theorem x_0 {M : mm_M} {a : Nat} (h : M a = some (.inl (0, [.null, .int 0]))) : ∃ M', ff_X0_init (a + 1) M a = some M' ∧ Hi M' a 0 (fun i => i) (fun _ => k0) ∧ Fa a M M' := by
  obtain ⟨M1, a1, a2, a3⟩ := o_nR 3 5 (a + 1) M
  obtain ⟨M2, b1, b2, b3⟩ := o_pR (M := M1) (a := a) (by rw [a3 a (by omega)]; exact h) (k := 0) (by simp) (a + 1)
  have S0 : HP M2 a 0 := ⟨b2, ⟨fun _ => none, by rw [b3 _ (by omega), a2], fun j hj => by omega⟩, fun j hj => by omega⟩
  have fr0 : Fa a M M2 := fun q hq => by rw [b3 _ (by omega), a3 _ (by omega)]
  obtain ⟨N0, s0, S1, t0⟩ := x_0s (p := a + 1 + 1) (p1 := a + 1 + 2) (I := 0) S0 (by omega) (by omega) (by omega) rfl
  obtain ⟨N1, s1, S2, t1⟩ := x_0s (p := a + 1 + 29) (p1 := a + 1 + 30) (I := 1) S1 (by omega) (by omega) (by omega) rfl
  obtain ⟨N2, s2, S3, t2⟩ := x_0s (p := a + 1 + 57) (p1 := a + 1 + 58) (I := 2) S2 (by omega) (by omega) (by omega) rfl
  obtain ⟨N3, s3, S4, t3⟩ := x_0s (p := a + 1 + 85) (p1 := a + 1 + 86) (I := 3) S3 (by omega) (by omega) (by omega) rfl
  obtain ⟨N4, s4, S5, t4⟩ := x_0s (p := a + 1 + 113) (p1 := a + 1 + 114) (I := 4) S4 (by omega) (by omega) (by omega) rfl
  have r1 : mm_gR 0 N4 a 0 = some (a + 1) := rR S5.1 rfl
  obtain ⟨w1, ⟨f, w2, w3⟩, w4⟩ := S5
  have r2 : mm_ln N4 (a + 1) = some 5 := rL w2 (by decide)
  refine ⟨N4, ?_, ⟨w1, ⟨f, w2, w3⟩, fun i hi => hi, fun i j _ _ q => q, w4⟩, Fa_tr fr0 (Fa_tr t0 (Fa_tr t1 (Fa_tr t2 (Fa_tr t3 t4))))⟩
  unfold ff_X0_init
  rw [a1, Option.bind_some, b1, Option.bind_some]
  rw [s0, s1, s2, s3, s4, r1, Option.bind_some, r2, Option.bind_some, if_pos (by decide)]
theorem x_6 {M : mm_M} {b : Nat} (h : M b = some (.inl (6, [.null, .null, .null, .null]))) : ∃ M', ff_X6_init (b + 1) M b = some M' ∧ Ci M' b k0 0 (fun _ => k0) 0 (fun _ => 0) ∧ Fb b M M' := by
  obtain ⟨M1, a1, a2, a3⟩ := o_nO 2 [.null, .null, .null, .int 0] (b + 1) M
  obtain ⟨M2, b1, b2, b3⟩ := x_2 a2
  obtain ⟨M3, c1, c2, c3⟩ := o_pR (M := M2) (a := b) (by rw [b3 _ (by omega), a3 _ (by omega)]; exact h) (k := 0) (by simp) (b + 1)
  obtain ⟨M4, d1, d2, d3⟩ := o_nO 2 [.null, .null, .null, .int 0] (b + 29) M3
  obtain ⟨M5, e1, e2, e3⟩ := x_2 d2
  obtain ⟨M6, f1, f2, f3⟩ := o_pR (M := M5) (a := b) (by rw [e3 _ (by omega), d3 _ (by omega)]; exact c2) (k := 1) (by simp) (b + 29)
  obtain ⟨M7, g1, g2, g3⟩ := o_nO 0 [.null, .int 0] (b + 57) M6
  obtain ⟨M8, h1, h2, h3⟩ := x_0 g2
  obtain ⟨M9, i1, i2, i3⟩ := o_pR (M := M8) (a := b) (by rw [h3 _ (by omega), g3 _ (by omega)]; exact f2) (k := 2) (by simp) (b + 57)
  obtain ⟨M10, j1, j2, j3⟩ := o_nO 5 [.null, .int 0] (b + 199) M9
  obtain ⟨M11, k1, k2, k3, k4⟩ := x_5 (sz := b + 200) j2 (by omega)
  obtain ⟨M12, l1, l2, l3⟩ := o_pR (M := M11) (a := b) (by rw [k4 _ (by omega) (by omega), j3 _ (by omega)]; exact i2) (k := 3) (by simp) (b + 199)
  have lo : ∀ q, q ≠ b → q ≠ b + 199 → q ≠ b + 200 → M12 q = M8 q := fun q q1 q2 q3 => by rw [l3 _ q1, k4 _ q2 q3, j3 _ q2, i3 _ q1]
  have lo2 : ∀ q, q ≠ b → (q < b + 57 ∨ b + 201 ≤ q) → M12 q = M5 q := fun q q1 q2 => by rw [lo q q1 (by omega) (by omega), h3 _ (by omega), g3 _ (by omega), f3 _ q1]
  have lo3 : ∀ q, q ≠ b → (q < b + 29 ∨ b + 201 ≤ q) → M12 q = M2 q := fun q q1 q2 => by rw [lo2 q q1 (by omega), e3 _ (by omega), d3 _ (by omega), c3 _ q1]
  refine ⟨M12, ?_, ⟨l2, St_kept b2 (fun q q1 q2 => lo3 q (by omega) (by omega)), ⟨k0, St_kept e2 (fun q q1 q2 => lo2 q (by omega) (by omega))⟩, ⟨_, Hi_kept h2 (fun q q1 q2 => lo q (by omega) (by omega) (by omega))⟩, ?_, fun _ => 0, ?_, fun j hj => rfl⟩, fun q hq => ?_⟩
  · have b1' : ff_X2_init (b + 1 + 1) M1 (b + 1) = some M2 := b1
    have d1' : mm_nO 2 [.null, .null, .null, .int 0] (b + 1 + 28) M3 = some M4 := d1
    have e1' : ff_X2_init (b + 1 + 29) M4 (b + 1 + 28) = some M5 := e1
    have f1' : mm_pR 6 M5 b 1 (b + 1 + 28) = some M6 := f1
    have g1' : mm_nO 0 [.null, .int 0] (b + 1 + 56) M6 = some M7 := g1
    have h1' : ff_X0_init (b + 1 + 57) M7 (b + 1 + 56) = some M8 := h1
    have i1' : mm_pR 6 M8 b 2 (b + 1 + 56) = some M9 := i1
    have j1' : mm_nO 5 [.null, .int 0] (b + 1 + 198) M9 = some M10 := j1
    have k1' : ff_X5_init (b + 1 + 199) M10 (b + 1 + 198) = some M11 := k1
    have l1' : mm_pR 6 M11 b 3 (b + 1 + 198) = some M12 := l1
    unfold ff_X6_init
    rw [a1, Option.bind_some, b1', Option.bind_some, c1, Option.bind_some, d1', Option.bind_some, e1', Option.bind_some, f1', Option.bind_some, g1', Option.bind_some, h1', Option.bind_some, i1', Option.bind_some, j1', Option.bind_some, k1', Option.bind_some, l1', Option.bind_some]
  · rw [l3 _ (by omega)]; exact k2
  · rw [l3 _ (by omega)]; exact k3
  · rw [lo3 q (by omega) (by omega), b3 _ (by omega), a3 _ (by omega)]
