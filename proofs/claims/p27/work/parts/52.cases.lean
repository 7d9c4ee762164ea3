/-! the law's cases -/
section CA
variable {n N : Int} {b u tl : Nat} {M : mm_M} {k tx : Nat → Int32} {pg : Nat → Nat → Int32} {L : Nat} {xs : Nat → Int32} {t px py : Int32}
/-- a case comes to the common end, with all that holds -/
def CX (N : Int) (b L : Nat) (xs : Nat → Int32) (t px py : Int32) (X : Option ((Int32 × mm_M) ⊕ ((Int32 × mm_M) ⊕ (Int32 × mm_M)))) : Prop := ∃ M' k' u' pg' tl' tx', X = ff_L_law_j1271 L xs M' b t px py ∧ Ci M' b k' u' pg' tl' tx' ∧ KJ (N + 1) k' u' pg' tl'
theorem CX_0 (hC : Ci M b k u pg tl tx) (hK : KJ N k u pg tl) {X : Option ((Int32 × mm_M) ⊕ ((Int32 × mm_M) ⊕ (Int32 × mm_M)))} (h : X = ff_L_law_j1271 L xs M b t px py) : CX N b L xs t px py X := ⟨M, k, u, pg, tl, tx, h, hC, KJ_mono hK (by omega)⟩
/-- whether a cell is laid -/
def LD (k : Nat → Int32) (ld : Int32) : Prop := (ld = 0 ∧ lc k ≤ 0) ∨ (ld = 1 ∧ ¬ lc k ≤ 0)
theorem lc0 (hl : lc k ≤ 0) (hI : IP 2000 k) : ∀ j, j < 144 → k (164 + j) = -1 := lc_0 hI.2.1 (by rw [zz_le, z0] at hl; exact hl)
theorem c_floor (hC : Ci M b k u pg tl tx) (hK : KJ N k u pg tl) {ld : Int32} (hld : LD k ld) (y : Int32) : CX N b L xs t px py (ff_L_law_j175 L xs M b t y 0 px py ld) := by
  have hI := hK.1.1
  have h1 := lw_r y (n := 5) (by decide)
  have h2 := lw_r (y >>> ((3 : Int32) &&& 31)) (n := 5) (by decide)
  rw [z5] at h1 h2
  have e1 : (3 + lw y 5).toInt = 3 + (lw y 5).toInt := by rw [zz_a (by rw [z3]; omega) (by rw [z3]; omega), z3]
  have e2 : (3 + lw (y >>> ((3 : Int32) &&& 31)) 5).toInt = 3 + (lw (y >>> ((3 : Int32) &&& 31)) 5).toInt := by rw [zz_a (by rw [z3]; omega) (by rw [z3]; omega), z3]
  have l1 := fun M => l_low M y (n := 5) (by decide)
  have l2 := fun M => l_low M (y >>> ((3 : Int32) &&& 31)) (n := 5) (by decide)
  generalize 3 + lw (y >>> ((3 : Int32) &&& 31)) 5 = r at *
  generalize 3 + lw y 5 = c at *
  sorry
end CA
