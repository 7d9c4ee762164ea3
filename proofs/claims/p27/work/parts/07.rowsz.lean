-- rows that tell that the heap doesn't shrink, for constructors; branches and returns over what is computed
def mm_nO (ci : Nat) (fs : List Value) (sz : Nat) (M : mm_M) : Option mm_M := some (mm_up M sz (.inl (ci, fs)))
def mm_nI (t n : Nat) (sz : Nat) (M : mm_M) : Option mm_M := some (mm_up M sz (.inr (t, n, .inl (fun _ => 0))))
def mm_nR (t n : Nat) (sz : Nat) (M : mm_M) : Option mm_M := some (mm_up M sz (.inr (t, n, .inr (fun _ => none))))
theorem mm_if1 {α : Type} {c : Prop} [Decidable c] {a b : α} {r : α} (hc : c) (h : (if c then a else b) = r) : a = r := by rwa [if_pos hc] at h
theorem mm_if0 {α : Type} {c : Prop} [Decidable c] {a b : α} {r : α} (hc : ¬ c) (h : (if c then a else b) = r) : b = r := by rwa [if_neg hc] at h
def mm_oc {β : Type} (o : Option Nat) (a : β) (k : Nat → β) : β := match o with
  | none => a
  | some q => k q
theorem mm_ocn {β : Type} {a : β} {k : Nat → β} {r : β} (h : mm_oc none a k = r) : a = r := h
theorem mm_ocs {β : Type} {q : Nat} {a : β} {k : Nat → β} {r : β} (h : mm_oc (some q) a k = r) : k q = r := h
theorem mm_sl {α β γ : Type} {f : α → γ} {k : β → γ} {a : α} {r : γ} (h : Sum.elim f k (.inl a) = r) : f a = r := h
theorem mm_sr {α β γ : Type} {f : α → γ} {k : β → γ} {a : β} {r : γ} (h : Sum.elim f k (.inr a) = r) : k a = r := h
def mm_u0 {β : Type} (f : β) : Unit → β := fun _ => f
def mm_u1 {α β : Type} (f : α → β) : α → β := f
def mm_u2 {α α2 β : Type} (f : α → α2 → β) : α × α2 → β := fun s => f s.1 s.2
def mm_u3 {α α2 α3 β : Type} (f : α → α2 → α3 → β) : α × α2 × α3 → β := fun s => f s.1 s.2.1 s.2.2
def mm_u4 {α α2 α3 α4 β : Type} (f : α → α2 → α3 → α4 → β) : α × α2 × α3 × α4 → β := fun s => f s.1 s.2.1 s.2.2.1 s.2.2.2
def mm_u5 {α α2 α3 α4 α5 β : Type} (f : α → α2 → α3 → α4 → α5 → β) : α × α2 × α3 × α4 × α5 → β := fun s => f s.1 s.2.1 s.2.2.1 s.2.2.2.1 s.2.2.2.2
def mm_u6 {α α2 α3 α4 α5 α6 β : Type} (f : α → α2 → α3 → α4 → α5 → α6 → β) : α × α2 × α3 × α4 × α5 × α6 → β := fun s => f s.1 s.2.1 s.2.2.1 s.2.2.2.1 s.2.2.2.2.1 s.2.2.2.2.2
theorem mm_pe {α β : Type} {a c : α} {b d : β} (h : some (a, b) = some (c, d)) : a = c ∧ b = d := by cases h; exact ⟨rfl, rfl⟩
/-- a truth value that is answered -/
def mm_bz (v : Int32) : Option Int32 := if v = 0 ∨ v = 1 then some v else none
theorem mm_bz_s {v w : Int32} (h : mm_bz v = some w) : (v = 0 ∨ v = 1) ∧ v = w := by
  unfold mm_bz at h
  split at h
  · rename_i hc
    exact ⟨hc, Option.some.inj h⟩
  · cases h
theorem mm_S_self {A : Nat → Prop} {H0 H : Heap} {locs : List Loc} (h : va_S A H0 H locs) : va_S A H H locs := ⟨Nat.le_refl _, fun _ _ _ => rfl, h.2.2⟩
theorem mm_S_trans {A : Nat → Prop} {H0 H H' : Heap} {locs locs' : List Loc} (h : va_S A H0 H locs) (h' : va_S A H H' locs') : va_S A H0 H' locs' := ⟨Nat.le_trans h.1 h'.1, fun q h1 h2 => by rw [h'.2.1 q (Nat.lt_of_lt_of_le h1 h.1) h2]; exact h.2.1 q h1 h2, h'.2.2⟩
section MMZ
variable {p : Program} {l : Launch} {e : Env} {R : Room} {s : State} {m : MethodId} {args : Array Value} {below : List Frame} {meth : Method} {c : Code} {H : Heap} {locs : List Loc} {cells slots : Nat} {Q : State → Prop}
variable {cc : ByteArray} {nL pc : Nat} {ls : Array Slot} {rest : List Value} {g : mm_G} {A : Nat → Prop} {M M' : mm_M} {own : String} {a : Nat} {idx ci k t : Nat}
theorem mm_putIz (C : mm_C g own cc nL p s m args meth c) (hR : mm_R g A M H) (hS : va_S A s.heap H locs) (hs : mm_PS own idx ci k false .int) {v : Int32} (hv : mm_pI ci M a k v = some M') (hdg : decode cc pc = .ok (.putfield idx, 3)) {z : Nat} (hz : z ≤ H.size)
    (kk : ∀ (H' : Heap) (locs' : List Loc), z ≤ H'.size → mm_R g A M' H' → va_S A s.heap H' locs' → W p l e R s m args below meth c H' locs' cells slots Q (F0 m (pc + 3) ls rest)) : W p l e R s m args below meth c H locs cells slots Q (F0 m pc ls (.int v :: .ref a :: rest)) := by
  obtain ⟨hx, hb, hml, hown, hts, hK, hlk⟩ := C
  obtain ⟨Cn, T, N, ty0, hc, hk, hin, hln, hty, hnm, hfin, hd, -⟩ := hs
  obtain ⟨fs, hM, hlt, rfl⟩ := mm_pI_s hv
  obtain ⟨L, hL, hP, hD⟩ := hR
  obtain ⟨-, q0, hq⟩ := mm_at (g := g) hL hM
  refine va_put (ty := .int) (v := .int v) hx hb hts hin ty0 hty hnm hown hK.1 hP hD (mm_S_self hS) q0 hq hc k hk (hts _ hln) (fun _ h => h) hfin hd rfl rfl hlt hdg (fun H' locs' hP' hD' hS' => ?_)
  exact kk H' locs' (Nat.le_trans hz hS'.1) (mm_R_set (o' := .inl (ci, fs.set k (.int v))) hL hM hD hq hP' hD') (mm_S_trans hS hS')
theorem mm_putRz (C : mm_C g own cc nL p s m args meth c) (hR : mm_R g A M H) (hS : va_S A s.heap H locs) (hin2 : meth.name = "<init>") {ty : FieldType} (hs : mm_PS own idx ci k true ty) (hty1 : ∀ v : Nat, narrow ty (.ref v) = .ref v ∧ fits ty (.ref v) = true) {v : Nat} (hv : mm_pR ci M a k v = some M') (hdg : decode cc pc = .ok (.putfield idx, 3)) {z : Nat} (hz : z ≤ H.size)
    (kk : ∀ (H' : Heap) (locs' : List Loc), z ≤ H'.size → mm_R g A M' H' → va_S A s.heap H' locs' → W p l e R s m args below meth c H' locs' cells slots Q (F0 m (pc + 3) ls rest)) : W p l e R s m args below meth c H locs cells slots Q (F0 m pc ls (.ref v :: .ref a :: rest)) := by
  obtain ⟨hx, hb, hml, hown, hts, hK, hlk⟩ := C
  obtain ⟨Cn, T, N, ty0, hc, hk, hin, hln, hty, hnm, hfin, hd, hdc⟩ := hs
  obtain ⟨fs, hM, hlt, rfl⟩ := mm_pR_s hv
  obtain ⟨L, hL, hP, hD⟩ := hR
  obtain ⟨-, q0, hq⟩ := mm_at (g := g) hL hM
  refine va_putF (ty := ty) (v := .ref v) hx hb hts hin ty0 hty hnm hown hK.1 hP hD (mm_S_self hS) q0 hq hc k hk (hts _ hln) (fun _ h => h) hfin hin2 (hdc rfl) hd (hty1 v).1 (hty1 v).2 hlt hdg (fun H' locs' hP' hD' hS' => ?_)
  exact kk H' locs' (Nat.le_trans hz hS'.1) (mm_R_set (o' := .inl (ci, fs.set k (.ref v))) hL hM hD hq hP' hD') (mm_S_trans hS hS')
theorem mm_iastz (C : mm_C g own cc nL p s m args meth c) (hR : mm_R g A M H) (hS : va_S A s.heap H locs) {i v : Int32} (hv : mm_sI 0 M a i v = some M') (hdg : decode cc pc = .ok (.iastore, 1)) {z : Nat} (hz : z ≤ H.size)
    (kk : ∀ (H' : Heap) (locs' : List Loc), z ≤ H'.size → mm_R g A M' H' → va_S A s.heap H' locs' → W p l e R s m args below meth c H' locs' cells slots Q (F0 m (pc + 1) ls rest)) : W p l e R s m args below meth c H locs cells slots Q (F0 m pc ls (.int v :: .int i :: .ref a :: rest)) := by
  obtain ⟨hx, hb, hml, hown, hts, hK, hlk⟩ := C
  obtain ⟨n, f, hM, hin, rfl⟩ := mm_sI_s hv
  obtain ⟨L, hL, hP, hD⟩ := hR
  obtain ⟨-, q0, hq⟩ := mm_at (g := g) hL hM
  refine va_iast hx hb hK.1 hP hD (mm_S_self hS) q0 0 hq rfl hin hdg (fun H' locs' hP' hD' hS' => ?_)
  exact kk H' locs' (Nat.le_trans hz hS'.1) (mm_R_set (o' := .inr (0, n, .inl (upd f i.toNatClampNeg v))) hL hM hD hq hP' hD') (mm_S_trans hS hS')
theorem mm_aastz (C : mm_C g own cc nL p s m args meth c) (hR : mm_R g A M H) (hS : va_S A s.heap H locs) {i : Int32} {v : Nat} {r : vw_C} (hc : mm_cl[ci]? = some r) (ht : mm_ty g.2 = mm_ty g.2 → (mm_ty g.2)[t]? = some (g.2 t, .object r.1)) (hv : mm_sR t ci M a i v = some M') (hdg : decode cc pc = .ok (.aastore, 1)) {z : Nat} (hz : z ≤ H.size)
    (kk : ∀ (H' : Heap) (locs' : List Loc), z ≤ H'.size → mm_R g A M' H' → va_S A s.heap H' locs' → W p l e R s m args below meth c H' locs' cells slots Q (F0 m (pc + 1) ls rest)) : W p l e R s m args below meth c H locs cells slots Q (F0 m pc ls (.ref v :: .int i :: .ref a :: rest)) := by
  obtain ⟨hx, hb, hml, hown, hts, hK, hlk⟩ := C
  obtain ⟨n, f, fs, hM, hin, hV, rfl⟩ := mm_sR_s hv
  obtain ⟨L, hL, hP, hD⟩ := hR
  obtain ⟨-, q0, hq⟩ := mm_at (g := g) hL hM
  obtain ⟨-, q1, hq1⟩ := mm_at (g := g) hL hV
  refine va_astq hx hb hK.1 hP hD (mm_S_self hS) q0 t q1 ci hq (ht rfl) hq1 hc hin hdg (fun H' locs' hP' hD' hS' => ?_)
  exact kk H' locs' (Nat.le_trans hz hS'.1) (mm_R_set (o' := .inr (t, n, .inr (va_up f i.toNatClampNeg (some v)))) hL hM hD hq hP' hD') (mm_S_trans hS hS')
/-- the heap's size is at most what has been made: here it is exactly that -/
theorem mm_hz {sz z : Nat} {g1 : JFrame} (hs : s.heap.size = sz) (hz : z ≤ H.size) (h : sz + cells = z) (kk : H.size = z → W p l e R s m args below meth c H locs cells slots Q g1) : W p l e R s m args below meth c H locs cells slots Q g1 := fun T hT X => by
  have h1 := X.heapSize
  rw [hT] at h1
  exact kk (by omega) T hT X
theorem mm_newO (C : mm_C g own cc nL p s m args meth c) (hR : mm_R g A M H) (hS : va_S A s.heap H locs) {sz0 : Nat} (hs0 : s.heap.size = sz0) (hA : ∀ q, sz0 ≤ q → A q) {z : Nat} (hz : z ≤ H.size) (hzc : sz0 + cells = z) {Cn : String} {T : u_T} {N : Nat} (ty0 : Nat → FieldType) (hc : mm_cl[ci]? = some (Cn, T, N)) (hin : ∀ w ∈ u_ws Cn T N, w ∈ mm_gw) (hty : ∀ k, k < N → parseFieldDescriptor (T k).2.2.1 = some (ty0 k))
    (h1 : Cond.classLink own idx Cn ∈ mm_gw) (h2 : Cond.instantiable Cn N ∈ mm_gw) (h3 : Cond.initialized Cn ∈ mm_gw) {fs : List Value} (hfs : ∀ j, j < N → defaultValue (ty0 j) = vp_V fs j) (hcells : cells + 1 ≤ R.cells) (hslots : slots + N ≤ R.slots) (hv : mm_nO ci fs z M = some M') (hdg : decode cc pc = .ok (.new idx, 3))
    (kk : ∀ (H' : Heap), z + 1 ≤ H'.size → mm_R g A M' H' → va_S A s.heap H' locs → W p l e R s m args below meth c H' locs (cells + 1) (slots + N) Q (F0 m (pc + 3) ls (.ref z :: rest))) : W p l e R s m args below meth c H locs cells slots Q (F0 m pc ls rest) := by
  refine mm_hz hs0 hz hzc (fun hz' => ?_)
  refine mm_new C hR hS (by rw [hs0]; exact hA) hz' ty0 hc hin hty h1 h2 h3 hfs hcells hslots hdg (fun H' _ hz2 hR' hS' => ?_)
  cases hv
  exact kk H' (Nat.le_of_eq hz2.symm) hR' hS'
theorem mm_newA (C : mm_C g own cc nL p s m args meth c) (hR : mm_R g A M H) (hS : va_S A s.heap H locs) {sz0 : Nat} (hs0 : s.heap.size = sz0) (hA : ∀ q, sz0 ≤ q → A q) {z : Nat} (hz : z ≤ H.size) (hzc : sz0 + cells = z) {atype : ArrayType} {ty : FieldType} (hty : newarray.typeOf atype = ty) (h1 : Cond.arrayClass ty ∈ mm_gw) (ht : ∀ cA, s.vm.findClass ("[" ++ ty.toString) = some cA → cA = g.2 t) {n : Int32} {N' : Nat} (hd : defaultValue ty = .int 0)
    (hn : ¬ n < 0) (hN : n.toNatClampNeg = N') (hbytes : N' * componentBytes ty ≤ 536870912) (hcells : cells + 1 ≤ R.cells) (hslots : slots + N' ≤ R.slots) (hv : mm_nI t N' z M = some M') (hdg : decode cc pc = .ok (.newarray atype, 2))
    (kk : ∀ (H' : Heap), z + 1 ≤ H'.size → mm_R g A M' H' → va_S A s.heap H' locs → W p l e R s m args below meth c H' locs (cells + 1) (slots + N') Q (F0 m (pc + 2) ls (.ref z :: rest))) : W p l e R s m args below meth c H locs cells slots Q (F0 m pc ls (.int n :: rest)) := by
  refine mm_hz hs0 hz hzc (fun hz' => ?_)
  refine mm_newI C hR hS (by rw [hs0]; exact hA) hz' hty h1 ht hd hn hN hbytes hcells hslots hdg (fun H' _ hz2 hR' hS' => ?_)
  cases hv
  exact kk H' (Nat.le_of_eq hz2.symm) hR' hS'
theorem mm_newQ (C : mm_C g own cc nL p s m args meth c) (hR : mm_R g A M H) (hS : va_S A s.heap H locs) {sz0 : Nat} (hs0 : s.heap.size = sz0) (hA : ∀ q, sz0 ≤ q → A q) {z : Nat} (hz : z ≤ H.size) (hzc : sz0 + cells = z) {Cn : String} (hcl : Cond.classLink own idx Cn ∈ mm_gw) (hover : va_AO Cn s) (ht : ∀ cA, s.vm.findClass ("[" ++ (FieldType.object Cn).toString) = some cA → cA = g.2 t) {n : Int32} {N' : Nat}
    (hn : ¬ n < 0) (hN : n.toNatClampNeg = N') (hbytes : N' * 4 ≤ 536870912) (hcells : cells + 1 ≤ R.cells) (hslots : slots + N' ≤ R.slots) (hv : mm_nR t N' z M = some M') (hdg : decode cc pc = .ok (.anewarray idx, 3))
    (kk : ∀ (H' : Heap), z + 1 ≤ H'.size → mm_R g A M' H' → va_S A s.heap H' locs → W p l e R s m args below meth c H' locs (cells + 1) (slots + N') Q (F0 m (pc + 3) ls (.ref z :: rest))) : W p l e R s m args below meth c H locs cells slots Q (F0 m pc ls (.int n :: rest)) := by
  refine mm_hz hs0 hz hzc (fun hz' => ?_)
  refine mm_newq C hR hS (by rw [hs0]; exact hA) hz' hcl hover ht hn hN hbytes hcells hslots hdg (fun H' _ hz2 hR' hS' => ?_)
  cases hv
  exact kk H' (Nat.le_of_eq hz2.symm) hR' hS'
variable {y : MethodName} {bytes : ByteArray} {maxL n : Nat} {ret : Option FieldType} {rm : Room} {As : List Value} {M2 : mm_M}
theorem mm_callVvz (C : mm_C g own cc nL p s m args meth c) (hR : mm_R g A M H) (hS : va_S A s.heap H locs) (hsz : ls.size = nL) (vs : mm_VS own idx ci y bytes maxL ret n) {u : Unit} (hk : mm_ck ci M a = some u) (hM : Met l y (mm_ws y bytes maxL ret) rm (va_Pc (.ref a :: As) (mm_B g A M)) (mm_Tv g A M2) 0 0 A) (hrm : mm_rmok rm R maxL)
    (hn : As.length = n) (hw : (rest.map fun v => v.category).sum ≤ 8) (hf : cells ≤ R.cells ∧ slots ≤ R.slots) {st : List Value} (hst : st = As.reverse ++ .ref a :: rest) (hdg : decode cc pc = .ok (.invokevirtual idx, 3)) {z : Nat} (hz : z ≤ H.size)
    (kk : ∀ (H' : Heap) (locs' : List Loc), z ≤ H'.size → mm_R g A M2 H' → va_S A s.heap H' locs' → W p l e R s m args below meth c H' locs' cells slots Q (F0 m (pc + 3) ls rest)) : W p l e R s m args below meth c H locs cells slots Q (F0 m pc ls st) := by
  have C0 := C
  obtain ⟨hx, hb, hml, hown, hts, hK, hlk⟩ := C
  obtain ⟨⟨T, N, hc⟩, -⟩ := id vs
  refine va_callv (va_runV (As := As) (rest := rest) ⟨hx, hb, hml, hown, hts⟩ hM (mm_cwV C0 vs hrm) ⟨mm_blind, mm_recv hK hR hk hc, mm_pre hK hR _⟩ rfl hn hsz hst (lv_room hw) hdg hf) hS (fun q _ h => h) (fun _ h => h) (fun u t H1 locs1 ht hvm hw hB hz1 hk1 hS1 => ?_)
  exact kk H1 locs1 (Nat.le_trans hz hz1) (by rw [← ht]; exact hB) hS1
theorem mm_callSvz (C : mm_C g own cc nL p s m args meth c) (hR : mm_R g A M H) (hS : va_S A s.heap H locs) (hsz : ls.size = nL) (vs : mm_SS own idx y bytes maxL ret n) (hM : Met l y (mm_ws y bytes maxL ret) rm (va_Pc As (mm_B g A M)) (mm_Tv g A M2) 0 0 A) (hrm : mm_rmok rm R maxL)
    (hn : As.length = n) (hw : (rest.map fun v => v.category).sum ≤ 8) (hf : cells ≤ R.cells ∧ slots ≤ R.slots) {st : List Value} (hst : st = As.reverse ++ rest) (hdg : decode cc pc = .ok (.invokestatic idx, 3)) {z : Nat} (hz : z ≤ H.size)
    (kk : ∀ (H' : Heap) (locs' : List Loc), z ≤ H'.size → mm_R g A M2 H' → va_S A s.heap H' locs' → W p l e R s m args below meth c H' locs' cells slots Q (F0 m (pc + 3) ls rest)) : W p l e R s m args below meth c H locs cells slots Q (F0 m pc ls st) := by
  have C0 := C
  obtain ⟨hx, hb, hml, hown, hts, hK, hlk⟩ := C
  refine va_callv (va_runS (As := As) (rest := rest) ⟨hx, hb, hml, hown, hts⟩ hM (mm_cwS C0 vs hrm) ⟨mm_blind, mm_pre hK hR _⟩ rfl hn hsz hst (lv_room hw) hdg hf) hS (fun q _ h => h) (fun _ h => h) (fun u t H1 locs1 ht hvm hw hB hz1 hk1 hS1 => ?_)
  exact kk H1 locs1 (Nat.le_trans hz hz1) (by rw [← ht]; exact hB) hS1
-- returns, over what was computed
theorem mm_ire (C : mm_C g own cc nL p s m args meth c) (hR : mm_R g A M H) (hS : va_S A s.heap H locs) (hr : meth.sig.returnType = some .int) {v r : Int32} (hv : v = r) (hM : M = M') (hdg : decode cc pc = .ok (.ireturn, 1)) : W p l e R s m args below meth c H locs cells slots (MQ below (mm_Ti g A r M') args s cells slots A) (F0 m pc ls [.int v]) := by
  subst hv; subst hM
  exact mm_iret C hR hS hr hdg
theorem mm_zre (C : mm_C g own cc nL p s m args meth c) (hR : mm_R g A M H) (hS : va_S A s.heap H locs) (hr : meth.sig.returnType = some .boolean) {v r : Int32} (hb : v = 0 ∨ v = 1) (hv : v = r) (hM : M = M') (hdg : decode cc pc = .ok (.ireturn, 1)) : W p l e R s m args below meth c H locs cells slots (MQ below (mm_Ti g A r M') args s cells slots A) (F0 m pc ls [.int v]) := by
  subst hv; subst hM
  exact mm_zret C hR hS hr hb hdg
theorem mm_vre (C : mm_C g own cc nL p s m args meth c) (hR : mm_R g A M H) (hS : va_S A s.heap H locs) (hr : meth.sig.returnType = none) (hM : M = M') (hdg : decode cc pc = .ok (.return_, 1)) : W p l e R s m args below meth c H locs cells slots (MQ below (mm_Tv g A M') args s cells slots A) (F0 m pc ls []) := by
  subst hM
  exact mm_vret C hR hS hr hdg
theorem mm_vrz (C : mm_C g own cc nL p s m args meth c) (hR : mm_R g A M H) (hS : va_S A s.heap H locs) (hr : meth.sig.returnType = none) (hM : M = M') {sz z : Nat} (hs : s.heap.size = sz) (hz : z ≤ H.size) (h : sz + cells = z) (hdg : decode cc pc = .ok (.return_, 1)) : W p l e R s m args below meth c H locs cells slots (MQ below (mm_Tz g A M' z) args s cells slots A) (F0 m pc ls []) := by
  subst hM
  exact mm_hz hs hz h (fun hz' => mm_vretZ C hR hS hr hz' hdg)
theorem mm_are (C : mm_C g own cc nL p s m args meth c) (hR : mm_R g A M H) (hS : va_S A s.heap H locs) {Cn : String} (hr : meth.sig.returnType = some (.object Cn)) {v r : Option Nat} (hv : v = r) (hM : M = M') (hdg : decode cc pc = .ok (.areturn, 1)) : W p l e R s m args below meth c H locs cells slots (MQ below (mm_Tr g A r M') args s cells slots A) (F0 m pc ls [va_rf v]) := by
  subst hv; subst hM
  exact mm_aret C hR hS hr hdg
end MMZ
