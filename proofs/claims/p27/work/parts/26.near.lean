/-! the nearest shade; tesserae brought to hand -/
def le3 (w s t : Int) : Prop := (s - w).natAbs < (t - w).natAbs ∨ ((s - w).natAbs = (t - w).natAbs ∧ s ≤ t)
def nb (P : Nat → Prop) (w r : Int) : Prop := (r = -1 ∧ ∀ s, ¬ P s) ∨ ∃ s : Nat, r = s ∧ P s ∧ ∀ t : Nat, P t → le3 w s t
theorem nb_uniq {P : Nat → Prop} {w r r' : Int} (h : nb P w r) (h' : nb P w r') : r = r' := by
  rcases h with ⟨h1, h2⟩ | ⟨s, h1, h2, h3⟩ <;> rcases h' with ⟨g1, g2⟩ | ⟨t, g1, g2, g3⟩
  · omega
  · exact absurd g2 (h2 t)
  · exact absurd h2 (g2 s)
  · have a := h3 t g2
    have b := g3 s h2
    unfold le3 at a b
    omega
theorem nb_congr {P Q : Nat → Prop} {w r : Int} (h : nb P w r) (hpq : ∀ s, P s ↔ Q s) : nb Q w r := by
  rcases h with ⟨h1, h2⟩ | ⟨s, h1, h2, h3⟩
  · exact Or.inl ⟨h1, fun s hs => h2 s ((hpq s).mpr hs)⟩
  · exact Or.inr ⟨s, h1, (hpq s).mp h2, fun t ht => h3 t ((hpq t).mpr ht)⟩
theorem nb_0 (w : Int) : nb (fun _ => False) w (-1) := Or.inl ⟨rfl, fun _ h => h⟩
/-- a shade is at hand or can be cut -/
def av (k : Nat → Int32) (s : Nat) : Prop := (s < 100 ∧ 0 < (k (308 + s)).toInt) ∨ ∃ q, q < 10 ∧ (k (409 + 11 * q)).toInt = s ∧ 0 < ga k q
noncomputable def nf (k : Nat → Int32) (w : Int) : Int := Classical.epsilon (fun r : Int => nb (av k) w r)
theorem nf_eq {k : Nat → Int32} {w r : Int} (h : nb (av k) w r) : nf k w = r := nb_uniq (Classical.epsilon_spec (p := fun r : Int => nb (av k) w r) ⟨r, h⟩) h
theorem t_nearer {M : mm_M} {w b c : Int32} (hw : -1000 ≤ w.toInt ∧ w.toInt ≤ 1000) (hb : -1 ≤ b.toInt ∧ b.toInt ≤ 99) (hc : 0 ≤ c.toInt ∧ c.toInt ≤ 99) {P : Nat → Prop} (h : nb P w.toInt b.toInt) :
    ∃ r, ff_X3_nearer M w b c = some r ∧ (-1 ≤ r.toInt ∧ r.toInt ≤ 99) ∧ nb (fun s => P s ∨ (s : Int) = c.toInt) w.toInt r.toInt := by
  have e1 : (b - w).toInt = b.toInt - w.toInt := zz_s (by omega) (by omega)
  have e2 : (c - w).toInt = c.toInt - w.toInt := zz_s (by omega) (by omega)
  have e3 : (mm_ab (b - w)).toInt = (b.toInt - w.toInt).natAbs := by rw [zz_ab (by omega), e1]
  have e4 : (mm_ab (c - w)).toInt = (c.toInt - w.toInt).natAbs := by rw [zz_ab (by omega), e2]
  simp only [ff_X3_nearer, zz_e, zz_le, zm1, e3, e4]
  obtain ⟨cn, hcn⟩ : ∃ cn : Nat, c.toInt = cn := ⟨c.toInt.toNat, by omega⟩
  rcases h with ⟨h1, h2⟩ | ⟨s, h1, h2, h3⟩
  · rw [if_pos h1]
    refine ⟨c, rfl, by omega, Or.inr ⟨cn, hcn, Or.inr (by omega), fun t ht => ?_⟩⟩
    rcases ht with ht | ht
    · exact absurd ht (h2 t)
    · unfold le3; omega
  · rw [if_neg (by omega)]
    split
    · rename_i hq
      refine ⟨_, rfl, by rw [zz_mn]; omega, Or.inr ⟨(min b.toInt c.toInt).toNat, by rw [zz_mn]; omega, ?_, fun t ht => ?_⟩⟩
      · rcases Int.le_total b.toInt c.toInt with q | q
        · left
          rw [show (min b.toInt c.toInt).toNat = s by omega]
          exact h2
        · right; omega
      · rcases ht with ht | ht
        · have := h3 t ht
          unfold le3 at this ⊢
          omega
        · unfold le3; omega
    · split
      · rename_i hq hq2
        refine ⟨c, rfl, by omega, Or.inr ⟨cn, hcn, Or.inr (by omega), fun t ht => ?_⟩⟩
        rcases ht with ht | ht
        · have := h3 t ht
          unfold le3 at this ⊢
          omega
        · unfold le3; omega
      · rename_i hq hq2
        refine ⟨b, rfl, by omega, Or.inr ⟨s, h1, Or.inl h2, fun t ht => ?_⟩⟩
        rcases ht with ht | ht
        · exact h3 t ht
        · unfold le3; omega
section NR
variable {M : mm_M} {z : Nat} {k : Nat → Int32}
theorem t_near (h : St M z k) (hr : Rs k) {w : Int32} (hw : -1000 ≤ w.toInt ∧ w.toInt ≤ 1000) :
    ∃ r, ff_X3_nearestShadeOrNone M (z + 4) w = some r ∧ (-1 ≤ r.toInt ∧ r.toInt ≤ 99) ∧ nb (av k) w.toInt r.toInt := by
  obtain ⟨e, h1, h4⟩ := it_inv (body := mm_u2 (ff_X3_nearestShadeOrNone_l4 M (z + 4) w)) (fun t (s : Int32 × Int32) => s.2.toInt = t ∧ (-1 ≤ s.1.toInt ∧ s.1.toInt ≤ 99) ∧ nb (fun q => q < t ∧ 0 < (k (308 + q)).toInt) w.toInt s.1.toInt)
    (fun e => (-1 ≤ e.1.toInt ∧ e.1.toInt ≤ 99) ∧ nb (fun q => q < 100 ∧ 0 < (k (308 + q)).toInt) w.toInt e.1.toInt) 100 (by
      rintro t ⟨x2, x3⟩ ht ⟨hx, hb, hq⟩
      dsimp only at hx hb hq
      refine Or.inl ?_
      show ∃ s', ff_X3_nearestShadeOrNone_l4 M (z + 4) w x2 x3 = _ ∧ _
      have e1 : (x3 + 1).toInt = ((t + 1 : Nat) : Int) := by rw [zz_a (by rw [z1]; omega) (by rw [z1]; omega), z1]; omega
      simp only [ff_X3_nearestShadeOrNone_l4, ff_X3_nearestShadeOrNone_j29, g_t1 h, l_h h, Option.bind_some]
      rw [if_neg (by rw [zz_le, z100]; omega), a_h h (by omega) (by omega), Option.bind_some]
      have hx3 : x3.toInt.toNat = t := by omega
      rw [hx3]
      by_cases hc : k (308 + t) ≤ 0
      · rw [if_pos hc]
        rw [zz_le, z0] at hc
        refine ⟨_, rfl, e1, hb, nb_congr hq (fun s => ?_)⟩
        constructor
        · rintro ⟨a, b⟩; exact ⟨by omega, b⟩
        · rintro ⟨a, b⟩
          refine ⟨?_, b⟩
          rcases Nat.lt_or_ge s t with q | q
          · exact q
          · rw [show s = t by omega] at b; omega
      · rw [if_neg hc]
        rw [zz_le, z0] at hc
        obtain ⟨r, f1, f2, f3⟩ := t_nearer (M := M) hw hb (c := x3) (by omega) hq
        rw [f1, Option.bind_some]
        refine ⟨_, rfl, e1, f2, nb_congr f3 (fun s => ?_)⟩
        constructor
        · rintro (⟨a, b⟩ | a)
          · exact ⟨by omega, b⟩
          · rw [show s = t by omega]; exact ⟨by omega, by omega⟩
        · rintro ⟨a, b⟩
          rcases Nat.lt_or_ge s t with q | q
          · exact Or.inl ⟨q, b⟩
          · exact Or.inr (by omega)) (by
      rintro ⟨x2, x3⟩ ⟨hx, hb, hq⟩
      dsimp only at hx hb hq
      refine ⟨(x2, x3), ?_, hb, hq⟩
      show ff_X3_nearestShadeOrNone_l4 M (z + 4) w x2 x3 = _
      simp only [ff_X3_nearestShadeOrNone_l4, g_t1 h, l_h h, Option.bind_some]
      rw [if_pos (by rw [zz_le, z100]; omega)]) ((-1 : Int32), (0 : Int32)) mm_fu (mm_fu_gt (by omega)) ⟨rfl, by decide, nb_congr (nb_0 _) (fun s => ⟨fun q => q.elim, fun q => absurd q.1 (by omega)⟩)⟩
  obtain ⟨x2, x3⟩ := e
  obtain ⟨hb0, hq0⟩ := h4
  dsimp only at hb0 hq0
  obtain ⟨e, h5, h6⟩ := it_inv (body := mm_u2 (ff_X3_nearestShadeOrNone_l47 M (z + 4) w (z + 5) 10)) (fun t (s : Int32 × Int32) => s.2.toInt = t ∧ (-1 ≤ s.1.toInt ∧ s.1.toInt ≤ 99) ∧ nb (fun s => (s < 100 ∧ 0 < (k (308 + s)).toInt) ∨ ∃ q, q < t ∧ (k (409 + 11 * q)).toInt = s ∧ 0 < ga k q) w.toInt s.1.toInt)
    (fun e => (-1 ≤ e.1.toInt ∧ e.1.toInt ≤ 99) ∧ nb (av k) w.toInt e.1.toInt) 10 (by
      rintro t ⟨y2, y5⟩ ht ⟨hx, hb, hq⟩
      dsimp only at hx hb hq
      refine Or.inl ?_
      show ∃ s', ff_X3_nearestShadeOrNone_l47 M (z + 4) w (z + 5) 10 y2 y5 = _ ∧ _
      have e1 : (y5 + 1).toInt = ((t + 1 : Nat) : Int) := by rw [zz_a (by rw [z1]; omega) (by rw [z1]; omega), z1]; omega
      have hsi := hr.2.2.2 t ht
      simp only [ff_X3_nearestShadeOrNone_l47, ff_X3_nearestShadeOrNone_j87, g_t3 h, g_t4 h, Option.bind_some]
      rw [if_neg (by rw [zz_le, z10]; omega), a_r h (by omega) (by omega), Option.bind_some]
      have hx3 : y5.toInt.toNat = t := by omega
      rw [hx3, c_r h ht, Option.bind_some, s_gg h hr ht, Option.bind_some]
      by_cases hg : 0 < ga k t
      · rw [if_pos hg, if_neg (by decide), g_r3 h ht, Option.bind_some]
        obtain ⟨r, f1, f2, f3⟩ := t_nearer (M := M) hw hb (c := k (409 + 11 * t)) (by omega) hq
        rw [f1, Option.bind_some]
        refine ⟨_, rfl, e1, f2, nb_congr f3 (fun s => ?_)⟩
        constructor
        · rintro ((a | ⟨q, a, b⟩) | a)
          · exact Or.inl a
          · exact Or.inr ⟨q, by omega, b⟩
          · exact Or.inr ⟨t, by omega, a.symm, hg⟩
        · rintro (a | ⟨q, a, b, c⟩)
          · exact Or.inl (Or.inl a)
          · rcases Nat.lt_or_ge q t with d | d
            · exact Or.inl (Or.inr ⟨q, d, b, c⟩)
            · rw [show q = t by omega] at b; exact Or.inr b.symm
      · rw [if_neg hg, if_pos rfl]
        refine ⟨_, rfl, e1, hb, nb_congr hq (fun s => ?_)⟩
        constructor
        · rintro (a | ⟨q, a, b⟩)
          · exact Or.inl a
          · exact Or.inr ⟨q, by omega, b⟩
        · rintro (a | ⟨q, a, b, c⟩)
          · exact Or.inl a
          · rcases Nat.lt_or_ge q t with d | d
            · exact Or.inr ⟨q, d, b, c⟩
            · rw [show q = t by omega] at c; exact absurd c hg) (by
      rintro ⟨y2, y5⟩ ⟨hx, hb, hq⟩
      dsimp only at hx hb hq
      refine ⟨(y2, y5), ?_, hb, hq⟩
      show ff_X3_nearestShadeOrNone_l47 M (z + 4) w (z + 5) 10 y2 y5 = _
      simp only [ff_X3_nearestShadeOrNone_l47]
      rw [if_pos (by rw [zz_le, z10]; omega)]) (x2, (0 : Int32)) mm_fu (mm_fu_gt (by omega)) ⟨rfl, hb0, nb_congr hq0 (fun s => ⟨fun q => Or.inl q, fun q => q.elim id (fun ⟨q, a, _⟩ => absurd a (by omega))⟩)⟩
  refine ⟨e.1, ?_, h6⟩
  have h5' : mm_it (mm_u2 (ff_X3_nearestShadeOrNone_l47 M (z + 4) w (z + 5) 10)) mm_fu (x2, 0) = some e := h5
  simp only [ff_X3_nearestShadeOrNone, h1, Option.bind_some, mm_u2, g_t0 h, l_r h]
  rw [h5', Option.bind_some]
/-- the first place below n -/
def fi (p : Nat → Bool) : Nat → Nat
  | 0 => 0
  | n + 1 => if fi p n < n then fi p n else if p n then n else n + 1
theorem fi_eq {p : Nat → Bool} {i : Nat} (hp : p i = true) (hq : ∀ q, q < i → p q = false) : ∀ {n : Nat}, i < n → fi p n = i := by
  have hno : ∀ m, m ≤ i → fi p m = m := by
    intro m
    induction m with
    | zero => intro _; rfl
    | succ m ih =>
      intro hm
      show (if fi p m < m then fi p m else if p m then m else m + 1) = m + 1
      rw [ih (by omega), if_neg (by omega), hq m (by omega)]
      rfl
  intro n
  induction n with
  | zero => intro h; omega
  | succ n ih =>
    intro h
    show (if fi p n < n then fi p n else if p n then n else n + 1) = i
    rcases Nat.lt_or_ge i n with q | q
    · rw [ih q, if_pos q]
    · have : i = n := by omega
      subst this
      rw [hno i (Nat.le_refl i), if_neg (by omega), if_pos hp]
theorem fi_sp {p : Nat → Bool} : ∀ {n : Nat}, (∃ i, i < n ∧ p i = true) → fi p n < n ∧ p (fi p n) = true ∧ ∀ q, q < fi p n → p q = false := by
  intro n ⟨i, hi, hp⟩
  have : ∃ i, i < n ∧ p i = true ∧ ∀ q, q < i → p q = false := by
    obtain ⟨j, ⟨h1, h2⟩, h3⟩ := pk_least (fun j => j < n ∧ p j = true) ⟨i, hi, hp⟩
    exact ⟨j, h1, h2, fun q hq => by
      cases hpq : p q with
      | false => rfl
      | true => exact absurd ⟨by omega, hpq⟩ (h3 q hq)⟩
  obtain ⟨j, h1, h2, h3⟩ := this
  rw [fi_eq h2 h3 h1]
  exact ⟨h1, h2, h3⟩
/-- the first strip of a shade that still gives a good one -/
def gv (k : Nat → Int32) (s : Int32) (i : Nat) : Bool := decide (k (409 + 11 * i) = s ∧ 0 < ga k i)
theorem t_first (h : St M z k) (hr : Rs k) (s : Int32) : (∃ i, i < 10 ∧ gv k s i = true) → ff_X3_firstStripGivingOrNull M (z + 4) s = some (some (z + 7 + 2 * fi (gv k s) 10)) := by
  intro hex
  obtain ⟨f1, f2, f3⟩ := fi_sp hex
  generalize fi (gv k s) 10 = i at *
  obtain ⟨e, h1, h4⟩ := it_inv (body := mm_u1 (ff_X3_firstStripGivingOrNull_l11 M (z + 4) s (z + 5) 10)) (fun t (x : Int32) => x.toInt = t)
    (fun e => e = .inr (some (z + 7 + 2 * i))) i (by
      intro t x ht hx
      refine Or.inl ⟨x + 1, ?_, by rw [zz_a (by rw [z1]; omega) (by rw [z1]; omega), z1]; omega⟩
      show ff_X3_firstStripGivingOrNull_l11 M (z + 4) s (z + 5) 10 x = _
      have hx3 : x.toInt.toNat = t := by omega
      have hg := f3 t ht
      simp only [ff_X3_firstStripGivingOrNull_l11, ff_X3_firstStripGivingOrNull_j51, g_t3 h, g_t4 h, Option.bind_some]
      rw [if_neg (by rw [zz_le, z10]; omega), a_r h (by omega) (by omega), Option.bind_some, hx3, g_r3 h (by omega), Option.bind_some]
      by_cases hc : k (409 + 11 * t) = s
      · rw [if_pos hc, c_r h (by omega), Option.bind_some, s_gg h hr (by omega), Option.bind_some, if_pos (by
          simp [gv, hc] at hg
          simp [hg])]
      · rw [if_neg hc]) (by
      intro x hx
      refine ⟨_, ?_, rfl⟩
      show ff_X3_firstStripGivingOrNull_l11 M (z + 4) s (z + 5) 10 x = _
      have hx3 : x.toInt.toNat = i := by omega
      simp only [gv, decide_eq_true_eq] at f2
      simp only [ff_X3_firstStripGivingOrNull_l11, g_t3 h, g_t4 h, Option.bind_some]
      rw [if_neg (by rw [zz_le, z10]; omega), a_r h (by omega) (by omega), Option.bind_some, hx3, g_r3 h f1, Option.bind_some, if_pos f2.1, c_r h f1, Option.bind_some, s_gg h hr f1, Option.bind_some, if_pos f2.2, if_neg (by decide)]) (0 : Int32) mm_fu (mm_fu_gt (by omega)) rfl
  subst h4
  simp only [ff_X3_firstStripGivingOrNull, g_t0 h, l_r h, h1, Option.bind_some]
  rfl
end NR
