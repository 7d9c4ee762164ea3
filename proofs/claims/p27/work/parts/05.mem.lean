/-! memory: addresses to objects and arrays; its relation to the heap; the rows of the machine over it -/
abbrev mm_O : Type := (Nat × List Value) ⊕ (Nat × Nat × ((Nat → Int32) ⊕ (Nat → Option Nat)))
abbrev mm_M : Type := Nat → Option mm_O
abbrev mm_G : Type := va_G × (Nat → ClassId)
abbrev mm_cl : List vw_C := [(RX0, TX0, 2), (RX1, TX1, 6), (RX2, TX2, 4), (RX3, TX3, 9), (RX4, TX4, 6), (RX5, TX5, 2), (RX6, TX6, 4)]
def mm_ty (tc : Nat → ClassId) : List (ClassId × FieldType) := [(tc 0, .int), (tc 1, .char), (tc 2, .object RX4), (tc 3, .object RX2)]
def mm_e (g : mm_G) : mm_O → va_E
  | .inl (ci, fs) => .inr (ci, fs)
  | .inr (t, n, .inl f) => .inl (g.2 t, n, .inl f)
  | .inr (t, n, .inr r) => .inl (g.2 t, n, .inr (.inr (.inr (.inr r))))
def mm_pf (g : mm_G) (M : mm_M) : Nat → va_E := fun a => match M a with
  | some o => mm_e g o
  | none => .inr (0, [])
def mm_up (M : mm_M) (a : Nat) (o : mm_O) : mm_M := fun q => if q = a then some o else M q
theorem mm_up_s (M : mm_M) (a : Nat) (o : mm_O) : mm_up M a o a = some o := by simp [mm_up]
theorem mm_up_n (M : mm_M) {a q : Nat} (o : mm_O) (h : q ≠ a) : mm_up M a o q = M q := by simp [mm_up, h]
/-- the heap holds the memory, at addresses of a kind -/
def mm_R (g : mm_G) (A : Nat → Prop) (M : mm_M) (H : Heap) : Prop := ∃ L : List Nat, (∀ a, a ∈ L ↔ M a ≠ none) ∧ va_P g.1 mm_cl ([] ++ va_pl L (mm_pf g M)) H ∧ va_D A ([] ++ va_pl L (mm_pf g M))
theorem mm_pf_at {g : mm_G} {M : mm_M} {a : Nat} {o : mm_O} (h : M a = some o) : mm_pf g M a = mm_e g o := by simp [mm_pf, h]
theorem mm_pf_up (g : mm_G) (M : mm_M) (a : Nat) (o : mm_O) : ∀ q, va_up (mm_pf g M) a (mm_e g o) q = mm_pf g (mm_up M a o) q := by
  intro q
  by_cases hq : q = a
  · subst hq; simp [va_up, mm_pf, mm_up]
  · simp [va_up, mm_pf, mm_up, hq]
theorem mm_at {g : mm_G} {M : mm_M} {L : List Nat} (hL : ∀ a, a ∈ L ↔ M a ≠ none) {a : Nat} {o : mm_O} (h : M a = some o) : a ∈ L ∧ ∃ k : Nat, ([] ++ va_pl L (mm_pf g M))[k]? = some (a, mm_e g o) := by
  have ha : a ∈ L := (hL a).mpr (by rw [h]; exact fun z => by cases z)
  obtain ⟨k, hk⟩ := va_pl_get (X := []) (f := mm_pf g M) ha
  exact ⟨ha, k, by rw [hk, mm_pf_at h]⟩
/-- a cell that is there gets another content -/
theorem mm_R_set {g : mm_G} {A : Nat → Prop} {M : mm_M} {L : List Nat} (hL : ∀ a, a ∈ L ↔ M a ≠ none) {a k : Nat} {o o' : mm_O} (h : M a = some o) (hD : va_D A ([] ++ va_pl L (mm_pf g M))) (hk : ([] ++ va_pl L (mm_pf g M))[k]? = some (a, mm_e g o)) {H : Heap}
    (hP' : va_P g.1 mm_cl (([] ++ va_pl L (mm_pf g M)).set k (a, mm_e g o')) H) (hD' : va_D A (([] ++ va_pl L (mm_pf g M)).set k (a, mm_e g o'))) : mm_R g A (mm_up M a o') H := by
  have ha : a ∈ L := (hL a).mpr (by rw [h]; exact fun z => by cases z)
  have e : ([] ++ va_pl L (mm_pf g M)).set k (a, mm_e g o') = [] ++ va_pl L (mm_pf g (mm_up M a o')) := by
    rw [va_pl_set hD ha (by rw [hk, mm_pf_at h])]
    exact congrArg (fun l => [] ++ l) (va_pl_congr (mm_pf_up g M a o'))
  refine ⟨L, fun q => ?_, by rw [← e]; exact hP', by rw [← e]; exact hD'⟩
  by_cases hq : q = a
  · subst hq
    simp [mm_up, ha]
  · rw [mm_up_n M o' hq]; exact hL q
/-- a new cell -/
theorem mm_R_new {g : mm_G} {A : Nat → Prop} {M : mm_M} {L : List Nat} (hL : ∀ a, a ∈ L ↔ M a ≠ none) {q : Nat} {o : mm_O} {H : Heap}
    (hP' : va_P g.1 mm_cl (([] ++ va_pl L (mm_pf g M)) ++ [(q, mm_e g o)]) H) (hD' : va_D A (([] ++ va_pl L (mm_pf g M)) ++ [(q, mm_e g o)])) : M q = none ∧ mm_R g A (mm_up M q o) H := by
  have hq : q ∉ L := va_pl_fresh2 hD'
  have e : ([] ++ va_pl L (mm_pf g M)) ++ [(q, mm_e g o)] = [] ++ va_pl (L ++ [q]) (mm_pf g (mm_up M q o)) := by
    rw [List.append_assoc, va_pl_push hq]
    exact congrArg (fun l => [] ++ l) (va_pl_congr (mm_pf_up g M q o))
  have hn : M q = none := by
    cases hm : M q with
    | none => rfl
    | some o => exact absurd ((hL q).mpr (by rw [hm]; exact fun z => by cases z)) hq
  refine ⟨hn, L ++ [q], fun r => ?_, by rw [← e]; exact hP', by rw [← e]; exact hD'⟩
  by_cases hr : r = q
  · subst hr
    simp [mm_up]
  · rw [mm_up_n M o hr]; simp [hr, hL r]
theorem mm_R_A {g : mm_G} {A : Nat → Prop} {M : mm_M} {H : Heap} (h : mm_R g A M H) {a : Nat} {o : mm_O} (hM : M a = some o) : A a ∧ a < H.size := by
  obtain ⟨L, hL, hP, hD⟩ := h
  obtain ⟨-, k, hk⟩ := mm_at (g := g) hL hM
  exact ⟨hD.2 k _ hk, (hP k _ hk).lt⟩
-- the words
def mm_gw : List Cond := lw_tbl.filter goodWord
theorem mm_gwI {w : Cond} (i : Nat) (h : lw_tbl[i]? = some w) (hg : goodWord w = true) : w ∈ mm_gw := List.mem_filter.mpr ⟨List.mem_of_getElem? h, hg⟩
theorem mm_gw_good {c : Cond} (hc : c ∈ mm_gw) {cs : List Cond} : GoodIn (cs ++ mm_gw) (c :: mm_gw) := by
  have hg : ∀ w ∈ mm_gw, goodWord w = true := fun w h => (List.mem_filter.mp h).2
  intro w hw
  rcases List.mem_cons.mp hw with rfl | h
  · exact ⟨List.mem_append_right _ hc, good_of_word (hg _ hc)⟩
  · exact ⟨List.mem_append_right _ h, good_of_word (hg _ h)⟩
theorem mm_good : GoodIn mm_gw mm_gw := fun w h => ⟨h, good_of_word (List.mem_filter.mp h).2⟩
-- nest mates and arrays of references
def mm_n1 : Cond := .methodLinkNest RX3 28 yX4_init RX6
def mm_n2 : Cond := .methodLinkNest RX6 28 yX5_init RX6
def mm_n3 : Cond := .methodLinkNest RX3 65 yX6_isShade RX6
def mm_K (g : mm_G) (U : State) : Prop := va_K g.1 mm_cl (mm_ty g.2) U ∧ va_Nw mm_n1 U ∧ va_Nw mm_n2 U ∧ va_Nw mm_n3 U ∧ va_AO RX4 U ∧ va_AO RX2 U
theorem mm_K.warm {g : mm_G} {s U : State} (hW : s.WarmedH U.vm) (h : mm_K g s) : mm_K g U :=
  ⟨va_K.moved hW.alike h.1, va_Nw.warmM hW h.2.1, va_Nw.warmM hW h.2.2.1, va_Nw.warmM hW h.2.2.2.1, va_AO.moved hW.alike h.2.2.2.2.1, va_AO.moved hW.alike h.2.2.2.2.2⟩
theorem mm_K.same {g : mm_G} {s U : State} (hv : s.vm = U.vm) (h : mm_K g s) : mm_K g U :=
  ⟨va_K.moved (by rw [← hv]; exact Vm.Alike.refl s.vm) h.1, va_Nw.same rfl hv h.2.1, va_Nw.same rfl hv h.2.2.1, va_Nw.same rfl hv h.2.2.2.1, va_AO.moved (by rw [← hv]; exact Vm.Alike.refl s.vm) h.2.2.2.2.1, va_AO.moved (by rw [← hv]; exact Vm.Alike.refl s.vm) h.2.2.2.2.2⟩
/-- what stands of the method that runs -/
def mm_C (g : mm_G) (own : String) (cc : ByteArray) (nL : Nat) (p : Program) (s : State) (m : MethodId) (args : Array Value) (meth : Method) (c : Code) : Prop :=
  p.tables.exec = Jvm.exec ∧ c.code = cc ∧ c.maxLocals = nL ∧ s.vm.findClass own = some m.cls ∧ (∀ w ∈ mm_gw, w.before args s = true) ∧ mm_K g s ∧ meth.locks = false
-- what is read and written
def mm_gI (ci : Nat) (M : mm_M) (a k : Nat) : Option Int32 := match M a with
  | some (.inl (c, fs)) => if c = ci then (match fs[k]? with | some (.int x) => some x | _ => none) else none
  | _ => none
def mm_gR (ci : Nat) (M : mm_M) (a k : Nat) : Option Nat := match M a with
  | some (.inl (c, fs)) => if c = ci then (match fs[k]? with | some (.ref x) => some x | _ => none) else none
  | _ => none
def mm_pI (ci : Nat) (M : mm_M) (a k : Nat) (x : Int32) : Option mm_M := match M a with
  | some (.inl (c, fs)) => if c = ci ∧ k < fs.length then some (mm_up M a (.inl (c, fs.set k (.int x)))) else none
  | _ => none
def mm_pR (ci : Nat) (M : mm_M) (a k : Nat) (x : Nat) : Option mm_M := match M a with
  | some (.inl (c, fs)) => if c = ci ∧ k < fs.length then some (mm_up M a (.inl (c, fs.set k (.ref x)))) else none
  | _ => none
def mm_ck (ci : Nat) (M : mm_M) (a : Nat) : Option Unit := match M a with
  | some (.inl (c, _)) => if c = ci then some () else none
  | _ => none
def mm_aI (t : Nat) (M : mm_M) (a : Nat) (i : Int32) : Option Int32 := match M a with
  | some (.inr (t', n, .inl f)) => if t' = t ∧ 0 ≤ i.toInt ∧ i.toInt < n then some (f i.toNatClampNeg) else none
  | _ => none
def mm_aR (t : Nat) (M : mm_M) (a : Nat) (i : Int32) : Option Nat := match M a with
  | some (.inr (t', n, .inr f)) => if t' = t ∧ 0 ≤ i.toInt ∧ i.toInt < n then f i.toNatClampNeg else none
  | _ => none
def mm_sI (t : Nat) (M : mm_M) (a : Nat) (i x : Int32) : Option mm_M := match M a with
  | some (.inr (t', n, .inl f)) => if t' = t ∧ 0 ≤ i.toInt ∧ i.toInt < n then some (mm_up M a (.inr (t', n, .inl (upd f i.toNatClampNeg x)))) else none
  | _ => none
def mm_sR (t ci : Nat) (M : mm_M) (a : Nat) (i : Int32) (x : Nat) : Option mm_M := match M a with
  | some (.inr (t', n, .inr f)) => if t' = t ∧ 0 ≤ i.toInt ∧ i.toInt < n ∧ mm_ck ci M x = some () then some (mm_up M a (.inr (t', n, .inr (va_up f i.toNatClampNeg (some x))))) else none
  | _ => none
def mm_ln (M : mm_M) (a : Nat) : Option Int32 := match M a with
  | some (.inr (t, n, _)) => if t < 4 then some (Int32.ofNat n) else none
  | _ => none
/-- System.arraycopy of ints -/
def mm_cp (M : mm_M) (a0 : Nat) (sp : Int32) (a : Nat) (dp n : Int32) : Option mm_M := match M a0, M a with
  | some (.inr (t0, n0, .inl f)), some (.inr (t1, n1, .inl h)) => if t0 = 0 ∧ t1 = 0 ∧ 0 ≤ sp.toInt ∧ 0 ≤ dp.toInt ∧ 0 ≤ n.toInt ∧ sp.toNatClampNeg + n.toNatClampNeg ≤ n0 ∧ dp.toNatClampNeg + n.toNatClampNeg ≤ n1 then some (mm_up M a (.inr (t1, n1, .inl (va_cpy f h sp.toNatClampNeg dp.toNatClampNeg n.toNatClampNeg)))) else none
  | _, _ => none
def mm_dv (x y : Int32) : Option Int32 := if y = 0 then none else some (x / y)
def mm_rm (x y : Int32) : Option Int32 := if y = 0 then none else some (x - x / y * y)
def mm_mx (x y : Int32) : Int32 := if x < y then y else x
def mm_mn (x y : Int32) : Int32 := if y < x then y else x
def mm_ab (x : Int32) : Int32 := if 0 ≤ x then x else 0 - x
def mm_i2c (x : Int32) : Int32 := (x.toUInt32 % 65536).toInt32
-- what a reading says
theorem mm_gI_s {ci : Nat} {M : mm_M} {a k : Nat} {v : Int32} (h : mm_gI ci M a k = some v) : ∃ fs, M a = some (.inl (ci, fs)) ∧ fs[k]? = some (.int v) := by
  unfold mm_gI at h
  split at h
  · rename_i c fs hM
    split at h
    · rename_i hc
      subst hc
      split at h
      · rename_i x hx
        cases h
        exact ⟨fs, hM, hx⟩
      · cases h
    · cases h
  · cases h
theorem mm_gR_s {ci : Nat} {M : mm_M} {a k : Nat} {v : Nat} (h : mm_gR ci M a k = some v) : ∃ fs, M a = some (.inl (ci, fs)) ∧ fs[k]? = some (.ref v) := by
  unfold mm_gR at h
  split at h
  · rename_i c fs hM
    split at h
    · rename_i hc
      subst hc
      split at h
      · rename_i x hx
        cases h
        exact ⟨fs, hM, hx⟩
      · cases h
    · cases h
  · cases h
theorem mm_pI_s {ci : Nat} {M M' : mm_M} {a k : Nat} {v : Int32} (h : mm_pI ci M a k v = some M') : ∃ fs, M a = some (.inl (ci, fs)) ∧ k < fs.length ∧ M' = mm_up M a (.inl (ci, fs.set k (.int v))) := by
  unfold mm_pI at h
  split at h
  · rename_i c fs hM
    split at h
    · rename_i hc
      obtain ⟨rfl, hk⟩ := hc
      cases h
      exact ⟨fs, hM, hk, rfl⟩
    · cases h
  · cases h
theorem mm_pR_s {ci : Nat} {M M' : mm_M} {a k : Nat} {v : Nat} (h : mm_pR ci M a k v = some M') : ∃ fs, M a = some (.inl (ci, fs)) ∧ k < fs.length ∧ M' = mm_up M a (.inl (ci, fs.set k (.ref v))) := by
  unfold mm_pR at h
  split at h
  · rename_i c fs hM
    split at h
    · rename_i hc
      obtain ⟨rfl, hk⟩ := hc
      cases h
      exact ⟨fs, hM, hk, rfl⟩
    · cases h
  · cases h
theorem mm_ck_s {ci : Nat} {M : mm_M} {a : Nat} {u : Unit} (h : mm_ck ci M a = some u) : ∃ fs, M a = some (.inl (ci, fs)) := by
  unfold mm_ck at h
  split at h
  · rename_i c fs hM
    split at h
    · rename_i hc
      subst hc
      exact ⟨fs, hM⟩
    · cases h
  · cases h
theorem mm_inI {i : Int32} {n : Nat} (h0 : 0 ≤ i.toInt) (h1 : i.toInt < n) : vp_in i n := vp_in_iff.mpr ⟨h0, h1⟩
theorem mm_aI_s {t : Nat} {M : mm_M} {a : Nat} {i v : Int32} (h : mm_aI t M a i = some v) : ∃ n f, M a = some (.inr (t, n, .inl f)) ∧ vp_in i n ∧ v = f i.toNatClampNeg := by
  unfold mm_aI at h
  split at h
  · rename_i t' n f hM
    split at h
    · rename_i hc
      obtain ⟨rfl, h0, h1⟩ := hc
      cases h
      exact ⟨n, f, hM, mm_inI h0 h1, rfl⟩
    · cases h
  · cases h
theorem mm_aR_s {t : Nat} {M : mm_M} {a : Nat} {i : Int32} {v : Nat} (h : mm_aR t M a i = some v) : ∃ n f, M a = some (.inr (t, n, .inr f)) ∧ vp_in i n ∧ f i.toNatClampNeg = some v := by
  unfold mm_aR at h
  split at h
  · rename_i t' n f hM
    split at h
    · rename_i hc
      obtain ⟨rfl, h0, h1⟩ := hc
      exact ⟨n, f, hM, mm_inI h0 h1, h⟩
    · cases h
  · cases h
theorem mm_sI_s {t : Nat} {M M' : mm_M} {a : Nat} {i v : Int32} (h : mm_sI t M a i v = some M') : ∃ n f, M a = some (.inr (t, n, .inl f)) ∧ vp_in i n ∧ M' = mm_up M a (.inr (t, n, .inl (upd f i.toNatClampNeg v))) := by
  unfold mm_sI at h
  split at h
  · rename_i t' n f hM
    split at h
    · rename_i hc
      obtain ⟨rfl, h0, h1⟩ := hc
      cases h
      exact ⟨n, f, hM, mm_inI h0 h1, rfl⟩
    · cases h
  · cases h
theorem mm_sR_s {t ci : Nat} {M M' : mm_M} {a : Nat} {i : Int32} {v : Nat} (h : mm_sR t ci M a i v = some M') : ∃ n f fs, M a = some (.inr (t, n, .inr f)) ∧ vp_in i n ∧ M v = some (.inl (ci, fs)) ∧ M' = mm_up M a (.inr (t, n, .inr (va_up f i.toNatClampNeg (some v)))) := by
  unfold mm_sR at h
  split at h
  · rename_i t' n f hM
    split at h
    · rename_i hc
      obtain ⟨rfl, h0, h1, h2⟩ := hc
      cases h
      obtain ⟨fs, hfs⟩ := mm_ck_s h2
      exact ⟨n, f, fs, hM, mm_inI h0 h1, hfs, rfl⟩
    · cases h
  · cases h
theorem mm_ln_s {M : mm_M} {a : Nat} {v : Int32} (h : mm_ln M a = some v) : ∃ t n x, M a = some (.inr (t, n, x)) ∧ t < 4 ∧ v = Int32.ofNat n := by
  unfold mm_ln at h
  split at h
  · rename_i t n x hM
    split at h
    · rename_i hc
      cases h
      exact ⟨t, n, x, hM, hc, rfl⟩
    · cases h
  · cases h
theorem mm_cp_s {M M' : mm_M} {a0 a : Nat} {sp dp n : Int32} (h : mm_cp M a0 sp a dp n = some M') : ∃ n0 f n1 k, M a0 = some (.inr (0, n0, .inl f)) ∧ M a = some (.inr (0, n1, .inl k)) ∧ 0 ≤ sp.toInt ∧ 0 ≤ dp.toInt ∧ 0 ≤ n.toInt ∧ sp.toNatClampNeg + n.toNatClampNeg ≤ n0 ∧ dp.toNatClampNeg + n.toNatClampNeg ≤ n1 ∧ M' = mm_up M a (.inr (0, n1, .inl (va_cpy f k sp.toNatClampNeg dp.toNatClampNeg n.toNatClampNeg))) := by
  unfold mm_cp at h
  split at h
  · rename_i t0 n0 f t1 n1 k h0 h1
    split at h
    · rename_i hc
      obtain ⟨rfl, rfl, c1, c2, c3, c4, c5⟩ := hc
      cases h
      exact ⟨n0, f, n1, k, h0, h1, c1, c2, c3, c4, c5, rfl⟩
    · cases h
  · cases h
theorem mm_bd {α β : Type} {x : Option α} {k : α → Option β} {r : β} (h : Option.bind x k = some r) : ∃ v, x = some v ∧ k v = some r := by
  cases x with
  | none => cases h
  | some v => exact ⟨v, rfl, h⟩
-- loops
def mm_it {σ ε : Type} (body : σ → Option (σ ⊕ ε)) : Nat → σ → Option ε
  | 0, _ => none
  | n + 1, s => match body s with
    | none => none
    | some (.inl s') => mm_it body n s'
    | some (.inr e) => some e
def mm_fu : Nat := 10000
theorem mm_itW {σ ε : Type} {body : σ → Option (σ ⊕ ε)} {Hd : σ → Prop} {e1 : ε} (hs : ∀ s y, body s = some y → (∀ s', y = .inl s' → Hd s') → (∀ e, y = .inr e → e = e1) → Hd s) : ∀ n s, mm_it body n s = some e1 → Hd s := by
  intro n
  induction n with
  | zero => intro s h; cases h
  | succ n ih =>
    intro s h
    cases hb : body s with
    | none => simp [mm_it, hb] at h
    | some y =>
      refine hs s y hb (fun s' hy => ?_) (fun e hy => ?_)
      · subst hy
        simp only [mm_it, hb] at h
        exact ih s' h
      · subst hy
        simp only [mm_it, hb] at h
        exact Option.some.inj h
