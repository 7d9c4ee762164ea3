/-! class and reference side by side: the class's cells from b on, the reference's from b + 201 on -/
def Ci (M : mm_M) (b : Nat) (k : Nat → Int32) (u : Nat) (pg : Nat → Nat → Int32) (tl : Nat) (tx : Nat → Int32) : Prop :=
  M b = some (.inl (6, [.ref (b + 1), .ref (b + 29), .ref (b + 57), .ref (b + 199)])) ∧ St M (b + 1) k ∧ (∃ kt, St M (b + 29) kt) ∧ (∃ sa, Hi M (b + 57) u sa pg) ∧ Tx M (b + 199) tl tx
def Fb (b : Nat) (M M' : mm_M) : Prop := ∀ a, (a < b ∨ b + 201 ≤ a) → M' a = M a
theorem Fb_rf {b : Nat} {M : mm_M} : Fb b M M := fun _ _ => rfl
theorem Fb_tr {b : Nat} {M M1 M2 : mm_M} (h : Fb b M M1) (h2 : Fb b M1 M2) : Fb b M M2 := fun a ha => (h2 a ha).trans (h a ha)
theorem Fb_z {b : Nat} {M M' : mm_M} (h : Fz (b + 1) M M') : Fb b M M' := fun a ha => h a (by omega)
theorem Hi_kept {M M' : mm_M} {a u : Nat} {sa : Nat → Nat} {pg : Nat → Nat → Int32} (h : Hi M a u sa pg) (hM : ∀ q, a ≤ q → q < a + 142 → M' q = M q) : Hi M' a u sa pg := by
  obtain ⟨h1, ⟨f, h2, h3⟩, h4, h5, h6⟩ := h
  exact ⟨by rw [hM _ (by omega) (by omega)]; exact h1, ⟨f, by rw [hM _ (by omega) (by omega)]; exact h2, h3⟩, h4, h5, fun i hi => St_kept (h6 i hi) (fun q q1 q2 => hM q (by omega) (by have := h4 i hi; omega))⟩
theorem Tx_kept {M M' : mm_M} {a n : Nat} {f : Nat → Int32} (h : Tx M a n f) (h0 : M' a = M a) (h1 : M' (a + 1) = M (a + 1)) : Tx M' a n f := by
  obtain ⟨g1, g, g2, g3⟩ := h
  exact ⟨by rw [h0]; exact g1, g, by rw [h1]; exact g2, g3⟩
section CI
variable {M M' : mm_M} {b u tl : Nat} {k k' : Nat → Int32} {pg : Nat → Nat → Int32} {tx : Nat → Int32}
theorem Ci_kept (h : Ci M b k u pg tl tx) (hM : ∀ a, b ≤ a → a < b + 201 → M' a = M a) : Ci M' b k u pg tl tx := by
  obtain ⟨h1, h2, ⟨kt, h3⟩, ⟨sa, h4⟩, h5⟩ := h
  exact ⟨by rw [hM _ (by omega) (by omega)]; exact h1, St_kept h2 (fun q q1 q2 => hM q (by omega) (by omega)), ⟨kt, St_kept h3 (fun q q1 q2 => hM q (by omega) (by omega))⟩, ⟨sa, Hi_kept h4 (fun q q1 q2 => hM q (by omega) (by omega))⟩, Tx_kept h5 (hM _ (by omega) (by omega)) (hM _ (by omega) (by omega))⟩
theorem Ci.st (h : Ci M b k u pg tl tx) : St M (b + 1) k := h.2.1
theorem i_0 (h : Ci M b k u pg tl tx) : mm_gR 6 M b 0 = some (b + 1) := rR h.1 rfl
theorem i_1 (h : Ci M b k u pg tl tx) : mm_gR 6 M b 1 = some (b + 29) := rR h.1 rfl
theorem i_2 (h : Ci M b k u pg tl tx) : mm_gR 6 M b 2 = some (b + 57) := rR h.1 rfl
theorem i_3 (h : Ci M b k u pg tl tx) : mm_gR 6 M b 3 = some (b + 199) := rR h.1 rfl
theorem i_c (h : Ci M b k u pg tl tx) : mm_ck 6 M b = some () := rC h.1
theorem i_h (h : Ci M b k u pg tl tx) : mm_ck 0 M (b + 57) = some () := by obtain ⟨-, -, -, ⟨sa, h4⟩, -⟩ := h; exact h_ck h4
theorem i_x (h : Ci M b k u pg tl tx) : mm_ck 5 M (b + 199) = some () := k_ck h.2.2.2.2
theorem i_u (h : Ci M b k u pg tl tx) : ff_X0_states M (b + 57) = some (nI u) := by
  obtain ⟨-, -, -, ⟨sa, h4⟩, -⟩ := h
  simp only [ff_X0_states, h_use h4, Option.bind_some]
theorem Ci_now (h : Ci M b k u pg tl tx) (hs : St M' (b + 1) k') (hF : Fz (b + 1) M M') : Ci M' b k' u pg tl tx ∧ Fb b M M' := by
  obtain ⟨h1, h2, ⟨kt, h3⟩, ⟨sa, h4⟩, h5⟩ := h
  exact ⟨⟨by rw [hF _ (by omega)]; exact h1, hs, ⟨kt, St_fz h3 hF (by omega)⟩, ⟨sa, Hi_kept h4 (fun q q1 q2 => hF q (by omega))⟩, Tx_kept h5 (hF _ (by omega)) (hF _ (by omega))⟩, Fb_z hF⟩
def uk (u : Nat) : Nat := if u < 5 then u + 1 else 5
def pgk (u : Nat) (k : Nat → Int32) (pg : Nat → Nat → Int32) : Nat → Nat → Int32 := if u < 5 then (fun i => if i = u then k else pg i) else (fun i => if i = 4 then k else rot pg i)
theorem c_keep (h : Ci M b k u pg tl tx) (hu : u ≤ 5) : ∃ M1, ff_X0_keep M (b + 57) (b + 1) = some M1 ∧ Ci M1 b k (uk u) (pgk u k pg) tl tx ∧ Fb b M M1 := by
  obtain ⟨h1, h2, ⟨kt, h3⟩, ⟨sa, h4⟩, h5⟩ := h
  obtain ⟨M1, sa', k1, k2, k3⟩ := h_keep h4 hu h2 (by omega)
  exact ⟨M1, k1, ⟨by rw [k3 _ (by omega)]; exact h1, St_kept h2 (fun q q1 q2 => k3 q (by omega)), ⟨kt, St_kept h3 (fun q q1 q2 => k3 q (by omega))⟩, ⟨sa', k2⟩, Tx_kept h5 (k3 _ (by omega)) (k3 _ (by omega))⟩, fun q hq => k3 q (by omega)⟩
end CI
/-- only the first 518 values of a page count -/
theorem PR_ext {k m m' : Nat → Int32} (h : PR k m) (hp : Rp k) (he : ∀ j, j < 518 → m' j = m j) : PR k m' := by
  unfold Rp at hp
  refine ⟨fun j hj => (he j (by omega)).trans (h.lo j hj), fun j h1 h2 => (he j h2).trans (h.hi j h1 h2), fun j hj => (he _ (by omega)).trans (h.pt j hj), fun x y hx hy => (he _ ?_).trans (h.wt x y hx hy), fun x y hx hy => (he _ ?_).trans (h.ld x y hx hy)⟩
  · have := cx_lt (w := (k 0).toInt.toNat) (h := (k 1).toInt.toNat) (x := x) (y := y) (by omega) (by omega) (by omega) (by omega)
    omega
  · have := cx_lt (w := (k 0).toInt.toNat) (h := (k 1).toInt.toNat) (x := x) (y := y) (by omega) (by omega) (by omega) (by omega)
    omega
theorem IP_mono {n n' : Int} {k : Nat → Int32} (h : IP n k) (hn : n ≤ n') : IP n' k := ⟨h.1, h.2.1, h.2.2.1, fun s hs => by have := h.2.2.2 s hs; omega⟩
/-- what holds of the pages, the texts -/
def KR (n : Int) (k m : Nat → Int32) (u : Nat) (pg : Nat → Nat → Int32) (sv : Nat → Int32) (tl : Nat) : Prop :=
  PR k m ∧ IP n k ∧ u ≤ 5 ∧ tl ≤ 80 ∧ ∀ i, i < u → PR (pg i) (fun j => sv (518 * i + j)) ∧ IP n (pg i)
section KRS
variable {n n' : Int} {k k' m m' : Nat → Int32} {u tl : Nat} {pg : Nat → Nat → Int32} {sv sv' : Nat → Int32}
theorem KR_now (h : KR n k m u pg sv tl) (hn : n ≤ n') (hP : PR k' m') (hI : IP n' k') : KR n' k' m' u pg sv tl := ⟨hP, hI, h.2.2.1, h.2.2.2.1, fun i hi => ⟨(h.2.2.2.2 i hi).1, IP_mono (h.2.2.2.2 i hi).2 hn⟩⟩
theorem KR_mono (h : KR n k m u pg sv tl) (hn : n ≤ n') : KR n' k m u pg sv tl := KR_now h hn h.1 (IP_mono h.2.1 hn)
theorem KR_keep (h : KR n k m u pg sv tl) (hs : ∀ i, i < (if u < 5 then u + 1 else 5) → ∀ j, j < 518 → sv' (518 * i + j) = (if u < 5 then (if i = u then m j else sv (518 * i + j)) else (if i = 4 then m j else sv (518 * (i + 1) + j)))) : KR n k m (uk u) (pgk u k pg) sv' tl := by
  obtain ⟨hP, hI, hu, ht, hk⟩ := h
  refine ⟨hP, hI, by unfold uk; split <;> omega, ht, fun i hi => ?_⟩
  unfold uk at hi
  have hs' := hs i hi
  unfold pgk
  by_cases h5 : u < 5
  · rw [if_pos h5] at hi ⊢
    by_cases hiu : i = u
    · show PR (if i = u then k else pg i) _ ∧ IP n (if i = u then k else pg i)
      rw [if_pos hiu]
      exact ⟨PR_ext hP hI.1 (fun j hj => by rw [hs' j hj, if_pos h5, if_pos hiu]), hI⟩
    · show PR (if i = u then k else pg i) _ ∧ IP n (if i = u then k else pg i)
      rw [if_neg hiu]
      obtain ⟨q1, q2⟩ := hk i (by omega)
      exact ⟨PR_ext q1 q2.1 (fun j hj => by rw [hs' j hj, if_pos h5, if_neg hiu]), q2⟩
  · rw [if_neg h5] at hi ⊢
    by_cases hiu : i = 4
    · show PR (if i = 4 then k else rot pg i) _ ∧ IP n (if i = 4 then k else rot pg i)
      rw [if_pos hiu]
      exact ⟨PR_ext hP hI.1 (fun j hj => by rw [hs' j hj, if_neg h5, if_pos hiu]), hI⟩
    · show PR (if i = 4 then k else rot pg i) _ ∧ IP n (if i = 4 then k else rot pg i)
      rw [if_neg hiu]
      have e : rot pg i = pg (i + 1) := by unfold rot; rw [if_pos (by omega)]
      rw [e]
      obtain ⟨q1, q2⟩ := hk (i + 1) (by omega)
      exact ⟨PR_ext q1 q2.1 (fun j hj => by rw [hs' j hj, if_neg h5, if_neg hiu]), q2⟩
end KRS
/-- what holds between two calls, n of them made -/
def IV (n : Int) (b : Nat) (M : mm_M) : Prop := ∃ k u pg m sp sv tx rd tl rc, Ci M b k u pg tl tx ∧ Md M (b + 201) m sp sv tx rd u tl rc ∧ KR n k m u pg sv tl
/-- a call of both -/
def SS (n : Int) (b : Nat) (M : mm_M) (F6 F7 : mm_M → Option (Int32 × mm_M)) : Prop := ∃ r M1 M2, F6 M = some (r, M1) ∧ mm_ck 7 M1 (b + 201) = some () ∧ F7 M1 = some (r, M2) ∧ IV (n + 1) b M2
section FI
variable {n : Int} {b u tl : Nat} {M : mm_M} {k m sp sv tx rd : Nat → Int32} {pg : Nat → Nat → Int32} {rc : Int32} {F6 F7 : mm_M → Option (Int32 × mm_M)}
theorem fin_r (hC : Ci M b k u pg tl tx) (hD : Md M (b + 201) m sp sv tx rd u tl rc) (hK : KR n k m u pg sv tl) {r : Int32} (h6 : F6 M = some (r, M)) (h7 : F7 M = some (r, M)) : SS n b M F6 F7 :=
  ⟨r, M, M, h6, c_m hD.mo, h7, k, u, pg, m, sp, sv, tx, rd, tl, rc, hC, hD, KR_mono hK (by omega)⟩
theorem fin_w (hC : Ci M b k u pg tl tx) (hD : Md M (b + 201) m sp sv tx rd u tl rc) (hK : KR n k m u pg sv tl) {r : Int32} {k' : Nat → Int32}
    (c : ∀ Mk, ff_X0_keep M (b + 57) (b + 1) = some Mk → Ci Mk b k (uk u) (pgk u k pg) tl tx → ∃ M1, F6 M = some (r, M1) ∧ St M1 (b + 1) k' ∧ Fz (b + 1) Mk M1)
    (d : ∀ M1, Md M1 (b + 201) m sp sv tx rd u tl rc → ∀ Mk sv', ff_X7_keep M1 (b + 201) = some Mk → Md Mk (b + 201) m sp sv' tx rd (uk u) tl rc → ∃ m', F7 M1 = some (r, wm Mk (b + 201) m') ∧ PR k' m')
    (hI : IP (n + 1) k') : SS n b M F6 F7 := by
  obtain ⟨Mk, a1, a2, a3⟩ := c_keep hC hK.2.2.1
  obtain ⟨M1, b1, b2, b3⟩ := c Mk a1 a2
  obtain ⟨c1, c2⟩ := Ci_now a2 b2 b3
  have D1 : Md M1 (b + 201) m sp sv tx rd u tl rc := Md_kept hD (fun a q1 q2 => Fb_tr a3 c2 a (by omega))
  obtain ⟨Mk2, sv', d1, d2, d3, d4⟩ := d_keep D1 hK.2.2.1
  obtain ⟨m', e1, e2⟩ := d M1 D1 Mk2 sv' d1 d2
  refine ⟨r, M1, _, b1, c_m D1.mo, e1, k', uk u, pgk u k pg, m', sp, sv', tx, rd, tl, rc, ?_, Md_wm d2 m', KR_now (KR_keep hK d4) (by omega) e2 hI⟩
  exact Ci_kept c1 (fun a q1 q2 => (Fy_tr d3 (Fy_wm _ _ _)) a (by omega))
end FI
