/-! the text: a machine over its characters, the class's and the reference's -/
def Tx (M : mm_M) (a n : Nat) (f : Nat → Int32) : Prop := M a = some (.inl (5, [.ref (a + 1), .int (nI n)])) ∧ ∃ g : Nat → Int32, M (a + 1) = some (.inr (1, 80, .inl g)) ∧ ∀ j, j < n → g j = f j
def dg (c : Int32) : Prop := 48 ≤ c.toInt ∧ c.toInt ≤ 57
/-- how far the text's beginning of i characters can stand: digits of the last shade, commas -/
def au (f : Nat → Int32) : Nat → Option (Nat × Nat)
  | 0 => some (0, 0)
  | i + 1 => match au f i with
    | none => none
    | some (d, c) => if 48 ≤ (f i).toInt ∧ (f i).toInt ≤ 57 ∧ d < 2 then some (d + 1, c) else if (f i).toInt = 44 ∧ 0 < d ∧ c < 7 then some (0, c + 1) else none
theorem au_s {f : Nat → Int32} {i d c : Nat} (h : au f i = some (d, c)) : au f (i + 1) = if 48 ≤ (f i).toInt ∧ (f i).toInt ≤ 57 ∧ d < 2 then some (d + 1, c) else if (f i).toInt = 44 ∧ 0 < d ∧ c < 7 then some (0, c + 1) else none := by
  simp only [au, h]
theorem au_r {f : Nat → Int32} : ∀ {i d c : Nat}, au f i = some (d, c) → d ≤ 2 ∧ c ≤ 7
  | 0, d, c, h => by
    simp only [au] at h
    cases h
    omega
  | i + 1, d, c, h => by
    cases h0 : au f i with
    | none => simp only [au, h0] at h; cases h
    | some q =>
      obtain ⟨d0, c0⟩ := q
      rw [au_s h0] at h
      have := au_r h0
      split at h
      · cases h; omega
      · split at h
        · cases h; omega
        · cases h
theorem au_none {f : Nat → Int32} {i : Nat} (h : au f i = none) : ∀ j, i ≤ j → au f j = none := by
  intro j hj
  obtain ⟨d, rfl⟩ : ∃ d, j = i + d := ⟨j - i, by omega⟩
  clear hj
  induction d with
  | zero => exact h
  | succ d ih =>
    show (match au f (i + d) with | none => none | some (d', c) => _) = none
    rw [ih]
theorem au_congr {f g : Nat → Int32} : ∀ {n : Nat}, (∀ j, j < n → f j = g j) → au f n = au g n
  | 0, _ => rfl
  | n + 1, h => by
    have h1 := au_congr (n := n) (fun j hj => h j (by omega))
    simp only [au, h1, h n (by omega)]
/-- the fault of the text -/
def FR (f : Nat → Int32) (n : Nat) (r : Int32) : Prop := (∃ i, i < n ∧ au f i ≠ none ∧ au f (i + 1) = none ∧ r = nI i) ∨ ∃ d c, au f n = some (d, c) ∧ r = if d = 0 then nI n else -1
theorem FR_uniq {f : Nat → Int32} {n : Nat} {r r' : Int32} (h : FR f n r) (h' : FR f n r') : r = r' := by
  rcases h with ⟨i, h1, h2, h3, h4⟩ | ⟨d, c, h1, h2⟩ <;> rcases h' with ⟨j, g1, g2, g3, g4⟩ | ⟨d', c', g1, g2⟩
  · have : i = j := by
      rcases Nat.lt_trichotomy i j with q | q | q
      · exact absurd (au_none h3 j (by omega)) g2
      · exact q
      · exact absurd (au_none g3 i (by omega)) h2
    rw [h4, g4, this]
  · rw [au_none h3 n (by omega)] at g1; cases g1
  · rw [au_none g3 n (by omega)] at h1; cases h1
  · rw [h1] at g1
    cases g1
    rw [h2, g2]
theorem FR_congr {f g : Nat → Int32} {n : Nat} {r : Int32} (h : FR f n r) (hfg : ∀ j, j < n → f j = g j) : FR g n r := by
  rcases h with ⟨i, h1, h2, h3, h4⟩ | ⟨d, c, h1, h2⟩
  · exact Or.inl ⟨i, h1, by rw [← au_congr (fun j hj => hfg j (by omega))]; exact h2, by rw [← au_congr (fun j hj => hfg j (by omega))]; exact h3, h4⟩
  · exact Or.inr ⟨d, c, by rw [← au_congr hfg]; exact h1, h2⟩
theorem z48 : (48 : Int32).toInt = 48 := rfl
theorem z57 : (57 : Int32).toInt = 57 := rfl
theorem z44 : (44 : Int32).toInt = 44 := rfl
theorem z7 : (7 : Int32).toInt = 7 := rfl
theorem z80 : (80 : Int32).toInt = 80 := rfl
section TX
variable {M : mm_M} {a n : Nat} {f : Nat → Int32}
theorem k_digit (c : Int32) : ff_X5_isDigit M c = some (if 48 ≤ c.toInt ∧ c.toInt ≤ 57 then 1 else 0) := by
  simp only [ff_X5_isDigit, zz_lt, z48, z57]
  split
  · rw [if_neg (by omega)]
  · split
    · rw [if_neg (by omega)]
    · rw [if_pos (by omega)]
theorem k_len (h : Tx M a n f) : mm_gI 5 M a 1 = some (nI n) := rI h.1 rfl
theorem k_ref (h : Tx M a n f) : mm_gR 5 M a 0 = some (a + 1) := rR h.1 rfl
theorem k_ck (h : Tx M a n f) : mm_ck 5 M a = some () := rC h.1
theorem k_ln (h : Tx M a n f) : mm_ln M (a + 1) = some 80 := by
  obtain ⟨-, g, h1, h2⟩ := h
  exact rL h1 (by decide)
theorem k_at (h : Tx M a n f) (hn : n ≤ 80) {i : Nat} (hi : i < n) : mm_aI 1 M (a + 1) (nI i) = some (f i) := by
  obtain ⟨-, g, h1, h2⟩ := h
  have e := zz_nI i (by omega)
  rw [rA h1 (by omega) (by omega), e]
  simp only [Int.toNat_natCast]
  rw [h2 i hi]
theorem k_fault (h : Tx M a n f) (hn : n ≤ 80) : ∃ r, ff_X5_firstFaultOrNone M a = some r ∧ FR f n r := by
  have en := zz_nI n (by omega)
  have hb : ∀ (i d c : Nat), i < n → au f i = some (d, c) → ff_X5_firstFaultOrNone_l6 M a (nI d) (nI c) (nI i) = (match au f (i + 1) with | some (d', c') => some (.inl (nI d', nI c', nI (i + 1))) | none => some (.inr (.inr (nI i)))) := by
    intro i d c hi hau
    obtain ⟨r1, r2⟩ := au_r hau
    have ei := zz_nI i (by omega)
    have ed := zz_nI d (by omega)
    have ec := zz_nI c (by omega)
    simp only [ff_X5_firstFaultOrNone_l6, ff_X5_firstFaultOrNone_j50, ff_X5_firstFaultOrNone_j77, k_len h, k_ref h, k_ln h, k_at h hn hi, k_digit, Option.bind_some]
    rw [if_neg (by rw [zz_le]; omega), if_neg (by rw [zz_le, z80]; omega)]
    by_cases c1 : 48 ≤ (f i).toInt ∧ (f i).toInt ≤ 57
    · by_cases c2 : d < 2
      · have hA : au f (i + 1) = some (d + 1, c) := by rw [au_s hau, if_pos ⟨c1.1, c1.2, c2⟩]
        rw [hA, if_pos c1, if_neg (by decide), if_neg (by rw [zz_le, z2]; omega), nI_1, nI_1]
      · have hA : au f (i + 1) = none := by rw [au_s hau, if_neg (fun q => c2 q.2.2), if_neg (fun q => by omega)]
        rw [hA, if_pos c1, if_neg (by decide), if_pos (by rw [zz_le, z2]; omega), if_neg (by rw [zz_e, z44]; omega)]
    · by_cases c2 : (f i).toInt = 44
      · by_cases c3 : 0 < d
        · by_cases c4 : c < 7
          · have hA : au f (i + 1) = some (0, c + 1) := by rw [au_s hau, if_neg (fun q => c1 ⟨q.1, q.2.1⟩), if_pos ⟨c2, c3, c4⟩]
            rw [hA, if_neg c1, if_pos rfl, if_pos (by rw [zz_e, z44]; exact c2), if_neg (by rw [zz_le, z0]; omega), if_neg (by rw [zz_le, z7]; omega), nI_1, nI_1]
            rfl
          · have hA : au f (i + 1) = none := by rw [au_s hau, if_neg (fun q => c1 ⟨q.1, q.2.1⟩), if_neg (fun q => c4 q.2.2)]
            rw [hA, if_neg c1, if_pos rfl, if_pos (by rw [zz_e, z44]; exact c2), if_neg (by rw [zz_le, z0]; omega), if_pos (by rw [zz_le, z7]; omega)]
        · have hA : au f (i + 1) = none := by rw [au_s hau, if_neg (fun q => c1 ⟨q.1, q.2.1⟩), if_neg (fun q => c3 q.2.1)]
          rw [hA, if_neg c1, if_pos rfl, if_pos (by rw [zz_e, z44]; exact c2), if_pos (by rw [zz_le, z0]; omega)]
      · have hA : au f (i + 1) = none := by rw [au_s hau, if_neg (fun q => c1 ⟨q.1, q.2.1⟩), if_neg (fun q => c2 q.1)]
        rw [hA, if_neg c1, if_pos rfl, if_neg (by rw [zz_e, z44]; exact c2)]
  obtain ⟨e, h1, h2⟩ := it_inv (body := mm_u3 (ff_X5_firstFaultOrNone_l6 M a)) (fun t (st : Int32 × Int32 × Int32) => ∃ d c, au f t = some (d, c) ∧ st = (nI d, nI c, nI t))
    (fun e => (∃ d c, au f n = some (d, c) ∧ e = .inl (nI d, nI c, nI n)) ∨ ∃ i, i < n ∧ au f i ≠ none ∧ au f (i + 1) = none ∧ e = .inr (nI i)) n (by
      rintro t st ht ⟨d, c, hau, rfl⟩
      show (∃ s', ff_X5_firstFaultOrNone_l6 M a (nI d) (nI c) (nI t) = _ ∧ _) ∨ (∃ e, ff_X5_firstFaultOrNone_l6 M a (nI d) (nI c) (nI t) = _ ∧ _)
      rw [hb t d c ht hau]
      cases hq : au f (t + 1) with
      | none => exact Or.inr ⟨_, rfl, Or.inr ⟨t, ht, (by rw [hau]; exact fun z => by cases z), hq, rfl⟩⟩
      | some q => exact Or.inl ⟨_, rfl, q.1, q.2, rfl, rfl⟩) (by
      rintro st ⟨d, c, hau, rfl⟩
      refine ⟨.inl (nI d, nI c, nI n), ?_, Or.inl ⟨d, c, hau, rfl⟩⟩
      show ff_X5_firstFaultOrNone_l6 M a (nI d) (nI c) (nI n) = _
      simp only [ff_X5_firstFaultOrNone_l6, k_len h, Option.bind_some]
      rw [if_pos (Int32.le_refl _)]) ((0 : Int32), (0 : Int32), (0 : Int32)) mm_fu (mm_fu_gt (by omega)) ⟨0, 0, rfl, rfl⟩
  simp only [ff_X5_firstFaultOrNone, h1, Option.bind_some]
  rcases h2 with ⟨d, c, h3, rfl⟩ | ⟨i, h3, h4, h5, rfl⟩
  · obtain ⟨r1, r2⟩ := au_r h3
    have ed := zz_nI d (by omega)
    refine ⟨if d = 0 then nI n else -1, ?_, Or.inr ⟨d, c, h3, rfl⟩⟩
    show (if nI d = 0 then Option.bind (mm_gI 5 M a 1) fun v11 => some v11 else some (-1)) = _
    rw [k_len h, Option.bind_some]
    by_cases hd : d = 0
    · rw [if_pos (by rw [zz_e, z0]; omega), if_pos hd]
    · rw [if_neg (by rw [zz_e, z0]; omega), if_neg hd]
  · exact ⟨nI i, rfl, Or.inl ⟨i, h3, h4, h5, rfl⟩⟩
/-- the shades that the text's beginning tells -/
def vv (f : Nat → Int32) : Nat → Nat → Int32
  | 0 => fun _ => 0
  | i + 1 => match au f i with
    | some (d, c) => if (f i).toInt = 44 then vv f i else upd (vv f i) c (if d = 0 then f i - 48 else vv f i c * 10 + (f i - 48))
    | none => vv f i
theorem vv_s {f : Nat → Int32} {i d c : Nat} (h : au f i = some (d, c)) : vv f (i + 1) = if (f i).toInt = 44 then vv f i else upd (vv f i) c (if d = 0 then f i - 48 else vv f i c * 10 + (f i - 48)) := by
  simp only [vv, h]
theorem vv_congr {f g : Nat → Int32} : ∀ {n : Nat}, (∀ j, j < n → f j = g j) → vv f n = vv g n
  | 0, _ => rfl
  | n + 1, h => by
    have h1 := vv_congr (n := n) (fun j hj => h j (by omega))
    have h2 := au_congr (n := n) (fun j hj => h j (by omega))
    simp only [vv, h1, h2, h n (by omega)]
theorem vv_r {f : Nat → Int32} : ∀ {i d c : Nat}, au f i = some (d, c) → (∀ j, j < c → 0 ≤ (vv f i j).toInt ∧ (vv f i j).toInt ≤ 99) ∧ (0 < d → 0 ≤ (vv f i c).toInt ∧ (vv f i c).toInt ≤ 99 ∧ (d = 1 → (vv f i c).toInt ≤ 9))
  | 0, d, c, h => by
    simp only [au] at h
    cases h
    exact ⟨fun j hj => absurd hj (by omega), fun q => absurd q (by omega)⟩
  | i + 1, d, c, h => by
    cases h0 : au f i with
    | none => simp only [au, h0] at h; cases h
    | some q =>
      obtain ⟨d0, c0⟩ := q
      rw [au_s h0] at h
      obtain ⟨a1, a2⟩ := vv_r h0
      obtain ⟨r1, r2⟩ := au_r h0
      rw [vv_s h0]
      split at h
      · rename_i hc
        cases h
        rw [if_neg (by omega)]
        have e48 : (f i - 48).toInt = (f i).toInt - 48 := zz_s (by rw [z48]; omega) (by rw [z48]; omega)
        refine ⟨fun j hj => by rw [upd_n (by omega)]; exact a1 j hj, fun _ => ?_⟩
        rw [upd_s]
        by_cases hd : d0 = 0
        · rw [if_pos hd]; omega
        · rw [if_neg hd]
          obtain ⟨b1, b2, b3⟩ := a2 (by omega)
          have b4 := b3 (by omega)
          have e10 : (vv f i c * 10).toInt = (vv f i c).toInt * 10 := by rw [zz_m (by rw [z10]; omega) (by rw [z10]; omega), z10]
          rw [zz_a (by omega) (by omega), e10, e48]
          omega
      · split at h
        · rename_i hc
          cases h
          rw [if_pos hc.1]
          refine ⟨fun j hj => ?_, fun q => absurd q (by omega)⟩
          rcases Nat.lt_or_ge j c0 with q | q
          · exact a1 j q
          · rw [show j = c0 by omega]
            obtain ⟨b1, b2, -⟩ := a2 hc.2.1
            exact ⟨b1, b2⟩
        · cases h
theorem Tx_up (h : Tx M a n f) {q : Nat} {o : mm_O} (h1 : q ≠ a) (h2 : q ≠ a + 1) : Tx (mm_up M q o) a n f := by
  obtain ⟨h3, g, h4, h5⟩ := h
  exact ⟨by rw [mm_up_n _ _ (Ne.symm h1)]; exact h3, g, by rw [mm_up_n _ _ (Ne.symm h2)]; exact h4, h5⟩
/-- the class reads the shades, once the text has no fault -/
theorem k_read (h : Tx M a n f) (hn : n ≤ 80) {d c : Nat} (hau : au f n = some (d, c)) (hd : 0 < d) {q : Nat} (hq1 : q ≠ a) (hq2 : q ≠ a + 1) {s0 : Nat → Int32} (hs : M q = some (.inr (0, 8, .inl s0))) :
    ∃ s, ff_X5_readShades M a q = some (nI (c + 1), mm_up M q (.inr (0, 8, .inl s))) ∧ ∀ j, j < c + 1 → s j = vv f n j := by
  have en := zz_nI n (by omega)
  have hsome : ∀ i, i ≤ n → ∃ d c, au f i = some (d, c) := by
    intro i hi
    cases hq : au f i with
    | none => rw [au_none hq n hi] at hau; cases hau
    | some p => exact ⟨p.1, p.2, rfl⟩
  obtain ⟨⟨x2, x3, x4, M'⟩, h1, h2⟩ := it_inv (body := mm_u4 (ff_X5_readShades_l7 a q)) (fun t (st : Int32 × Int32 × Int32 × mm_M) => ∃ d c s, au f t = some (d, c) ∧ st = (nI c, (if 0 < d then vv f t c else 0), nI t, mm_up M q (.inr (0, 8, .inl s))) ∧ (∀ j, j < c → s j = vv f t j) ∧ (0 < d → s c = vv f t c))
    (fun e => ∃ s, e = (nI c, vv f n c, nI n, mm_up M q (.inr (0, 8, .inl s))) ∧ ∀ j, j < c + 1 → s j = vv f n j) n (by
      rintro t st ht ⟨d, c, s, hau, rfl, hs1, hs2⟩
      refine Or.inl ?_
      have h' := Tx_up h (o := .inr (0, 8, .inl s)) hq1 hq2
      obtain ⟨r1, r2⟩ := au_r hau
      obtain ⟨d', c', hau'⟩ := hsome (t + 1) (by omega)
      have et := zz_nI t (by omega)
      have ec := zz_nI c (by omega)
      have hau2 := hau'
      rw [au_s hau] at hau2
      show ∃ s', ff_X5_readShades_l7 a q (nI c) _ (nI t) _ = _ ∧ _
      simp only [ff_X5_readShades_l7, k_len h', k_ref h', k_ln h', k_at h' hn ht, Option.bind_some]
      rw [if_neg (by rw [zz_le]; omega), if_neg (by rw [zz_le, z80]; omega)]
      have hln : ∀ (o : (Nat → Int32)), mm_ln (mm_up M q (.inr (0, 8, .inl o))) q = some 8 := fun o => rL (mm_up_s _ _ _) (by decide)
      have hw : ∀ (o : Nat → Int32) (i v : Int32), 0 ≤ i.toInt → i.toInt < 8 → mm_sI 0 (mm_up M q (.inr (0, 8, .inl o))) q i v = some (mm_up M q (.inr (0, 8, .inl (upd o i.toInt.toNat v)))) := fun o i v a b => by rw [wA (mm_up_s _ _ _) a b, up_up]
      split at hau2
      · rename_i hc
        cases hau2
        rw [if_neg (by rw [zz_e, z44]; omega)]
        simp only [ff_X5_readShades_j62, ff_X5_readShades_j72, hln, Option.bind_some]
        rw [if_neg (by rw [zz_le, z8]; omega), hw _ _ _ (by omega) (by omega), Option.bind_some, ec, nI_1]
        simp only [Int.toNat_natCast]
        have hval : (if 0 < d then vv f t c else 0) * 10 + (f t - 48) = vv f (t + 1) c := by
          rw [vv_s hau, if_neg (show ¬ (f t).toInt = 44 by omega), upd_s]
          by_cases hd0 : d = 0
          · rw [if_neg (by omega), if_pos hd0, Int32.zero_mul, Int32.zero_add]
          · rw [if_pos (by omega), if_neg hd0]
        rw [hval]
        refine ⟨_, rfl, d + 1, c, upd s c (vv f (t + 1) c), hau', by rw [if_pos (by omega)], fun j hj => ?_, fun _ => upd_s⟩
        rw [upd_n (by omega), hs1 j hj, vv_s hau, if_neg (by omega), upd_n (by omega)]
      · split at hau2
        · rename_i hc0 hc
          cases hau2
          rw [if_pos (by rw [zz_e, z44]; exact hc.1)]
          simp only [ff_X5_readShades_j62, ff_X5_readShades_j72, hln, Option.bind_some]
          have ec1 := zz_nI (c + 1) (by omega)
          have hvv : vv f (t + 1) = vv f t := by rw [vv_s hau, if_pos hc.1]
          rw [nI_1, nI_1]
          rw [if_neg (by rw [zz_le, z8]; omega), hw _ _ _ (by omega) (by omega), Option.bind_some, ec1]
          simp only [Int.toNat_natCast]
          refine ⟨_, rfl, 0, c + 1, upd s (c + 1) 0, hau', rfl, fun j hj => ?_, fun q => absurd q (by omega)⟩
          rw [upd_n (by omega), hvv]
          rcases Nat.lt_or_ge j c with q | q
          · exact hs1 j q
          · rw [show j = c by omega]; exact hs2 hc.2.1
        · cases hau2) (by
      rintro st ⟨d', c', s, hau', rfl, hs1, hs2⟩
      rw [hau] at hau'
      cases hau'
      have h' := Tx_up h (o := .inr (0, 8, .inl s)) hq1 hq2
      refine ⟨(nI c, vv f n c, nI n, mm_up M q (.inr (0, 8, .inl s))), ?_, s, rfl, fun j hj => ?_⟩
      · rw [if_pos hd]
        show ff_X5_readShades_l7 a q (nI c) _ (nI n) _ = _
        simp only [ff_X5_readShades_l7, k_len h', Option.bind_some]
        rw [if_pos (Int32.le_refl _)]
      · rcases Nat.lt_or_ge j c with q | q
        · exact hs1 j q
        · rw [show j = c by omega]; exact hs2 hd) ((0 : Int32), (0 : Int32), (0 : Int32), M) mm_fu (mm_fu_gt (by omega)) ⟨0, 0, s0, rfl, by
        have : mm_up M q (.inr (0, 8, .inl s0)) = M := by
          funext x
          by_cases hx : x = q
          · subst hx; rw [mm_up_s]; exact hs.symm
          · rw [mm_up_n _ _ hx]
        rw [this]
        rfl, fun j hj => absurd hj (by omega), fun q => absurd q (by omega)⟩
  obtain ⟨s, h3, h4⟩ := h2
  cases h3
  obtain ⟨r1, r2⟩ := au_r hau
  refine ⟨s, ?_, h4⟩
  simp only [ff_X5_readShades, h1, Option.bind_some]
  show Option.bind (mm_ln (mm_up M q (.inr (0, 8, .inl s))) q) _ = _
  rw [rL (mm_up_s _ _ _) (by decide), Option.bind_some, nI_1]
  have ec1 := zz_nI (c + 1) (by omega)
  have : mm_mn (nI (c + 1)) (Int32.ofNat 8) = nI (c + 1) := by
    rw [zz_e, zz_mn, ec1, show (Int32.ofNat 8).toInt = 8 from rfl]
    omega
  rw [this]
theorem nar_c {c : Int32} (h0 : 32 ≤ c.toInt) (h1 : c.toInt ≤ 126) : vp_nar .char (mm_i2c c) = c := by
  obtain ⟨m, e1, e2⟩ := nat_of (a := c) (by omega)
  have hb : c.toBitVec.toNat = m := by
    rw [e2]
    exact pk_tn (by omega)
  have e3 : mm_i2c c = c := by
    unfold mm_i2c
    rw [pk_char, hb, Nat.mod_eq_of_lt (by omega), ← e2]
  have hc := pk_charN (q := m) (by omega)
  rw [e3]
  rw [← e2] at hc
  unfold vp_nar
  rw [hc.1]
/-- a character comes to the text's end -/
theorem k_append (h : Tx M a n f) (hn : n < 80) {c : Int32} (h0 : 32 ≤ c.toInt) (h1 : c.toInt ≤ 126) : ∃ M', ff_X5_append M a c = some M' ∧ Tx M' a (n + 1) (upd f n c) ∧ (∀ q, q ≠ a → q ≠ a + 1 → M' q = M q) := by
  obtain ⟨h3, g, h4, h5⟩ := id h
  have en := zz_nI n (by omega)
  have e1 : mm_sI 1 M (a + 1) (nI n) (vp_nar .char (mm_i2c c)) = some (mm_up M (a + 1) (.inr (1, 80, .inl (upd g n c)))) := by
    rw [wA h4 (by omega) (by omega), nar_c h0 h1, en]
    simp only [Int.toNat_natCast]
  have h3' : mm_up M (a + 1) (.inr (1, 80, .inl (upd g n c))) a = some (.inl (5, [.ref (a + 1), .int (nI n)])) := by rw [mm_up_n _ _ (by omega)]; exact h3
  refine ⟨mm_up (mm_up M (a + 1) (.inr (1, 80, .inl (upd g n c)))) a (.inl (5, [.ref (a + 1), .int (nI (n + 1))])), ?_, ⟨mm_up_s _ _ _, upd g n c, by rw [mm_up_n _ _ (by omega), mm_up_s], fun j hj => ?_⟩, fun q q1 q2 => by rw [mm_up_n _ _ q1, mm_up_n _ _ q2]⟩
  · simp only [ff_X5_append, k_len h, k_ref h, k_ln h, e1, rI h3' (k := 1) rfl, wI h3' (k := 1) (by simp), Option.bind_some]
    rw [if_neg (by rw [zz_le, z80]; omega), nI_1]
    rfl
  · by_cases hj2 : j = n
    · subst hj2; rw [upd_s, upd_s]
    · rw [upd_n hj2, upd_n hj2]; exact h5 j (by omega)
end TX
